def f_L_law_2259 (xs : Nat → Int32) (L : Nat) (r28 : Int32 → Mem → Option (Int32 × Mem)) (x5 : Int32) (M : Mem) : Option (Int32 × Mem) :=
  nm (x5 + 6) (fun e1 => r28 e1 M)
set_option maxHeartbeats 4000000 in
set_option maxRecDepth 100000 in
theorem t_L_law_2259 {G : GG} {p : Program} {l : Launch} {e : Env} {s : State} {m : MethodId} {below : List Frame} {meth : Method} {c : Code} {b L : Nat} {xs : Nat → Int32} {M' : Mem} (X : Cx G (AL s) p s m #[Value.ref b] meth c RL cL_law 9) (Y : CxH G (AL s) l s) (Z : CxL (AL s) s b L xs) (hr : meth.sig.returnType = ret) (hfl : G.2.2.2.2 = true) {ce sl : Nat} (hce : ce + 2 ≤ 601024) (hsl : sl + 12 ≤ 7293034) {r28 : Int32 → Mem → Option (Int32 × Mem)} (hr28 : ∀ (x5 : Int32) (M : Mem), r28 x5 M = some (1, M') → T G (AL s) p l e room_1 s m #[Value.ref b] below meth c 9 (ce + 2) (sl + 12) (lw_Z below #[Value.ref b] s) 28 [(0, .ref b), (1, .ref (G.2.1 (9, 0, 0))), (2, .ref (G.2.1 (10, 0, 0))), (3, .ref (G.2.1 (40, 0, 0))), (4, .ref (G.2.1 (41, 0, 0))), (5, .int x5)] [] M) {x5 : Int32} {M : Mem}  (h : f_L_law_2259 xs L r28 x5 M = some (1, M')) : T G (AL s) p l e room_1 s m #[Value.ref b] below meth c 9 (ce + 2) (sl + 12) (lw_Z below #[Value.ref b] s) 2259 [(0, .ref b), (1, .ref (G.2.1 (9, 0, 0))), (2, .ref (G.2.1 (10, 0, 0))), (3, .ref (G.2.1 (40, 0, 0))), (4, .ref (G.2.1 (41, 0, 0))), (5, .int x5)] [] M := by
  unfold f_L_law_2259 at h
  refine r_iincN (pc := 2259) X (v0 := 6) rfl (by decide) (by decide) dL_law_2259 h (fun e1 h => ?_)
  refine r_goto (pc := 2262) X (tgt := 28) dL_law_2262 (by decide) ?_
  exact T_sub (hr28 _ _ h) ⟨rfl, rfl, rfl, rfl, rfl, rfl, trivial⟩
def f_L_law_301 (xs : Nat → Int32) (L : Nat) (r28 : Int32 → Mem → Option (Int32 × Mem)) (x5 : Int32) (M : Mem) : Option (Int32 × Mem) :=
  f_L_law_2259 xs L r28 x5 M
set_option maxHeartbeats 4000000 in
set_option maxRecDepth 100000 in
theorem t_L_law_301 {G : GG} {p : Program} {l : Launch} {e : Env} {s : State} {m : MethodId} {below : List Frame} {meth : Method} {c : Code} {b L : Nat} {xs : Nat → Int32} {M' : Mem} (X : Cx G (AL s) p s m #[Value.ref b] meth c RL cL_law 9) (Y : CxH G (AL s) l s) (Z : CxL (AL s) s b L xs) (hr : meth.sig.returnType = ret) (hfl : G.2.2.2.2 = true) {ce sl : Nat} (hce : ce + 2 ≤ 601024) (hsl : sl + 12 ≤ 7293034) {r28 : Int32 → Mem → Option (Int32 × Mem)} (hr28 : ∀ (x5 : Int32) (M : Mem), r28 x5 M = some (1, M') → T G (AL s) p l e room_1 s m #[Value.ref b] below meth c 9 (ce + 2) (sl + 12) (lw_Z below #[Value.ref b] s) 28 [(0, .ref b), (1, .ref (G.2.1 (9, 0, 0))), (2, .ref (G.2.1 (10, 0, 0))), (3, .ref (G.2.1 (40, 0, 0))), (4, .ref (G.2.1 (41, 0, 0))), (5, .int x5)] [] M) {x5 : Int32} {M : Mem}  (h : f_L_law_301 xs L r28 x5 M = some (1, M')) : T G (AL s) p l e room_1 s m #[Value.ref b] below meth c 9 (ce + 1) (sl + 6) (lw_Z below #[Value.ref b] s) 301 [(0, .ref b), (1, .ref (G.2.1 (9, 0, 0))), (2, .ref (G.2.1 (10, 0, 0))), (3, .ref (G.2.1 (40, 0, 0))), (4, .ref (G.2.1 (41, 0, 0))), (5, .int x5)] [] M := by
  unfold f_L_law_301 at h
  refine r_goto (pc := 301) X (tgt := 2259) dL_law_301 (by decide) ?_
  exact T_widen (k := (ce + 2)) (n := (sl + 12)) (by omega) (by omega) (T_sub (t_L_law_2259 X Y Z hr hfl (by omega) (by omega) hr28 h) ⟨rfl, rfl, rfl, rfl, rfl, rfl, trivial⟩)
def f_L_law_200 (xs : Nat → Int32) (L : Nat) (r28 : Int32 → Mem → Option (Int32 × Mem)) (x5 : Int32) (M : Mem) : Option (Int32 × Mem) :=
  if bad (x5 + 1) L then none else if bad (x5 + 2) L then none else if bad (x5 + 3) L then none else if bad (x5 + 4) L then none else if bad (x5 + 5) L then none else bnd (f_L_append (xs (Int32.toNatClampNeg (x5 + 1))) (xs (Int32.toNatClampNeg (x5 + 2))) (xs (Int32.toNatClampNeg (x5 + 3))) (xs (Int32.toNatClampNeg (x5 + 4))) (xs (Int32.toNatClampNeg (x5 + 5))) M) (fun r1 M2 => if bad (x5 + 1) L then none else if bad (x5 + 2) L then none else if bad (x5 + 3) L then none else if bad (x5 + 4) L then none else if bad (x5 + 5) L then none else bnd (f_X12_append (xs (Int32.toNatClampNeg (x5 + 1))) (xs (Int32.toNatClampNeg (x5 + 2))) (xs (Int32.toNatClampNeg (x5 + 3))) (xs (Int32.toNatClampNeg (x5 + 4))) (xs (Int32.toNatClampNeg (x5 + 5))) M2) (fun r4 M5 => bnd (f_X12_thrown  M5) (fun r7 M8 => if r7 = r1 then if r1 = 0 then if bad 0 1 then none else if (lg_cmp (M8.2.1 (40, 0, 0) (Int32.toNatClampNeg 0)) (Int32.toInt64 r4)) = 0 then f_L_law_301 xs L r28 x5 M8 else some (0, M8) else f_L_law_301 xs L r28 x5 M8 else some (0, M8))))
set_option maxHeartbeats 4000000 in
set_option maxRecDepth 100000 in
theorem t_L_law_200 {G : GG} {p : Program} {l : Launch} {e : Env} {s : State} {m : MethodId} {below : List Frame} {meth : Method} {c : Code} {b L : Nat} {xs : Nat → Int32} {M' : Mem} (X : Cx G (AL s) p s m #[Value.ref b] meth c RL cL_law 9) (Y : CxH G (AL s) l s) (Z : CxL (AL s) s b L xs) (hr : meth.sig.returnType = ret) (hfl : G.2.2.2.2 = true) {ce sl : Nat} (hce : ce + 2 ≤ 601024) (hsl : sl + 12 ≤ 7293034) {r28 : Int32 → Mem → Option (Int32 × Mem)} (hr28 : ∀ (x5 : Int32) (M : Mem), r28 x5 M = some (1, M') → T G (AL s) p l e room_1 s m #[Value.ref b] below meth c 9 (ce + 2) (sl + 12) (lw_Z below #[Value.ref b] s) 28 [(0, .ref b), (1, .ref (G.2.1 (9, 0, 0))), (2, .ref (G.2.1 (10, 0, 0))), (3, .ref (G.2.1 (40, 0, 0))), (4, .ref (G.2.1 (41, 0, 0))), (5, .int x5)] [] M) {x5 : Int32} {M : Mem}  (h : f_L_law_200 xs L r28 x5 M = some (1, M')) : T G (AL s) p l e room_1 s m #[Value.ref b] below meth c 9 ce sl (lw_Z below #[Value.ref b] s) 200 [(0, .ref b), (1, .ref (G.2.1 (9, 0, 0))), (2, .ref (G.2.1 (10, 0, 0))), (3, .ref (G.2.1 (40, 0, 0))), (4, .ref (G.2.1 (41, 0, 0))), (5, .int x5)] [] M := by
  unfold f_L_law_200 at h
  refine r_aload_n (pc := 200) X dL_law_200 rfl ?_
  refine r_aload_n (pc := 201) X dL_law_201 rfl ?_
  refine r_iload (pc := 202) X dL_law_202 rfl ?_
  refine r_iconst (pc := 204) X (v := 1) dL_law_204 (by decide) ?_
  refine r_iadd (pc := 205) X dL_law_205 ?_
  refine r_sld (pc := 206) X Z dL_law_206 h (fun h => ?_)
  refine r_aload_n (pc := 207) X dL_law_207 rfl ?_
  refine r_iload (pc := 208) X dL_law_208 rfl ?_
  refine r_iconst (pc := 210) X (v := 2) dL_law_210 (by decide) ?_
  refine r_iadd (pc := 211) X dL_law_211 ?_
  refine r_sld (pc := 212) X Z dL_law_212 h (fun h => ?_)
  refine r_aload_n (pc := 213) X dL_law_213 rfl ?_
  refine r_iload (pc := 214) X dL_law_214 rfl ?_
  refine r_iconst (pc := 216) X (v := 3) dL_law_216 (by decide) ?_
  refine r_iadd (pc := 217) X dL_law_217 ?_
  refine r_sld (pc := 218) X Z dL_law_218 h (fun h => ?_)
  refine r_aload_n (pc := 219) X dL_law_219 rfl ?_
  refine r_iload (pc := 220) X dL_law_220 rfl ?_
  refine r_iconst (pc := 222) X (v := 4) dL_law_222 (by decide) ?_
  refine r_iadd (pc := 223) X dL_law_223 ?_
  refine r_sld (pc := 224) X Z dL_law_224 h (fun h => ?_)
  refine r_aload_n (pc := 225) X dL_law_225 rfl ?_
  refine r_iload (pc := 226) X dL_law_226 rfl ?_
  refine r_iconst (pc := 228) X (v := 5) dL_law_228 (by decide) ?_
  refine r_iadd (pc := 229) X dL_law_229 ?_
  refine r_sld (pc := 230) X Z dL_law_230 h (fun h => ?_)
  refine r_aload_n (pc := 231) X dL_law_231 rfl ?_
  refine bndE h (fun r1 M2 h3 h => ?_)
  refine r_callHS7 (pc := 232) X Y sy_L_append myh_L_append ml_L_118 ⟨Nat.le_of_ble_eq_true rfl, Nat.le_of_ble_eq_true rfl, by show _ ≤ 601024; omega, by show _ ≤ 7293034; omega⟩ (fun sz => c_L_append Y.1 hfl  h3) (Nat.le_of_ble_eq_true rfl) dL_law_232 ?_
  refine r_istore (pc := 235) X (by decide) dL_law_235 ?_
  refine r_aload_n (pc := 237) X dL_law_237 rfl ?_
  refine r_aload_n (pc := 238) X dL_law_238 rfl ?_
  refine r_iload (pc := 239) X dL_law_239 rfl ?_
  refine r_iconst (pc := 241) X (v := 1) dL_law_241 (by decide) ?_
  refine r_iadd (pc := 242) X dL_law_242 ?_
  refine r_sld (pc := 243) X Z dL_law_243 h (fun h => ?_)
  refine r_aload_n (pc := 244) X dL_law_244 rfl ?_
  refine r_iload (pc := 245) X dL_law_245 rfl ?_
  refine r_iconst (pc := 247) X (v := 2) dL_law_247 (by decide) ?_
  refine r_iadd (pc := 248) X dL_law_248 ?_
  refine r_sld (pc := 249) X Z dL_law_249 h (fun h => ?_)
  refine r_aload_n (pc := 250) X dL_law_250 rfl ?_
  refine r_iload (pc := 251) X dL_law_251 rfl ?_
  refine r_iconst (pc := 253) X (v := 3) dL_law_253 (by decide) ?_
  refine r_iadd (pc := 254) X dL_law_254 ?_
  refine r_sld (pc := 255) X Z dL_law_255 h (fun h => ?_)
  refine r_aload_n (pc := 256) X dL_law_256 rfl ?_
  refine r_iload (pc := 257) X dL_law_257 rfl ?_
  refine r_iconst (pc := 259) X (v := 4) dL_law_259 (by decide) ?_
  refine r_iadd (pc := 260) X dL_law_260 ?_
  refine r_sld (pc := 261) X Z dL_law_261 h (fun h => ?_)
  refine r_aload_n (pc := 262) X dL_law_262 rfl ?_
  refine r_iload (pc := 263) X dL_law_263 rfl ?_
  refine r_iconst (pc := 265) X (v := 5) dL_law_265 (by decide) ?_
  refine r_iadd (pc := 266) X dL_law_266 ?_
  refine r_sld (pc := 267) X Z dL_law_267 h (fun h => ?_)
  refine bndE h (fun r4 M5 h6 h => ?_)
  refine r_callVi5 (pc := 268) X ⟨(ltb rfl), (ltb rfl)⟩ rfl vy_X12_append my_X12_append ml_L_123 ⟨Nat.le_of_ble_eq_true rfl, Nat.le_of_ble_eq_true rfl, by show _ ≤ 601024; omega, by show _ ≤ 7293034; omega⟩ (c_X12_append  h6) (Nat.le_of_ble_eq_true rfl) dL_law_268 ?_
  refine r_istore (pc := 271) X (by decide) dL_law_271 ?_
  refine r_aload_n (pc := 273) X dL_law_273 rfl ?_
  refine bndE h (fun r7 M8 h9 h => ?_)
  refine r_callVi0 (pc := 274) X ⟨(ltb rfl), (ltb rfl)⟩ rfl vy_X12_thrown my_X12_thrown ml_L_124 ⟨Nat.le_of_ble_eq_true rfl, Nat.le_of_ble_eq_true rfl, by show _ ≤ 601024; omega, by show _ ≤ 7293034; omega⟩ (c_X12_thrown  h9) (Nat.le_of_ble_eq_true rfl) dL_law_274 ?_
  refine r_iload (pc := 277) X dL_law_277 rfl ?_
  refine r_icmp_eq (pc := 279) X (tgt := 284) dL_law_279 (by decide) h (fun h => ?_) (fun h => ?_)
  · refine r_iload (pc := 284) X dL_law_284 rfl ?_
    refine r_if_ne (pc := 286) X (tgt := 301) dL_law_286 (by decide) h (fun h => ?_) (fun h => ?_)
    · exact T_widen (k := (ce + 1)) (n := (sl + 6)) (by omega) (by omega) (T_sub (t_L_law_301 X Y Z hr hfl (by omega) (by omega) hr28 h) ⟨rfl, rfl, rfl, rfl, rfl, rfl, trivial⟩)
    · refine r_aload_n (pc := 289) X dL_law_289 rfl ?_
      refine r_iconst (pc := 290) X (v := 0) dL_law_290 (by decide) ?_
      refine r_lald (pc := 291) X (n := 1) ⟨(ltb rfl), (ltb rfl), hfl⟩ rfl (nlt rfl) dL_law_291 h (fun h => ?_)
      refine r_iload (pc := 292) X dL_law_292 rfl ?_
      refine r_i2l (pc := 294) X dL_law_294 ?_
      refine r_lcmp (pc := 295) X dL_law_295 ?_
      refine r_if_eq (pc := 296) X (tgt := 301) dL_law_296 (by decide) h (fun h => ?_) (fun h => ?_)
      · exact T_widen (k := (ce + 1)) (n := (sl + 6)) (by omega) (by omega) (T_sub (t_L_law_301 X Y Z hr hfl (by omega) (by omega) hr28 h) ⟨rfl, rfl, rfl, rfl, rfl, rfl, trivial⟩)
      · refine r_iconst (pc := 299) X (v := 0) dL_law_299 (by decide) ?_
        exact ret0 h
  · refine r_iconst (pc := 282) X (v := 0) dL_law_282 (by decide) ?_
    exact ret0 h
def f_L_law_357 (xs : Nat → Int32) (L : Nat) (r28 : Int32 → Mem → Option (Int32 × Mem)) (x5 : Int32) (M : Mem) : Option (Int32 × Mem) :=
  f_L_law_2259 xs L r28 x5 M
set_option maxHeartbeats 4000000 in
set_option maxRecDepth 100000 in
theorem t_L_law_357 {G : GG} {p : Program} {l : Launch} {e : Env} {s : State} {m : MethodId} {below : List Frame} {meth : Method} {c : Code} {b L : Nat} {xs : Nat → Int32} {M' : Mem} (X : Cx G (AL s) p s m #[Value.ref b] meth c RL cL_law 9) (Y : CxH G (AL s) l s) (Z : CxL (AL s) s b L xs) (hr : meth.sig.returnType = ret) (hfl : G.2.2.2.2 = true) {ce sl : Nat} (hce : ce + 2 ≤ 601024) (hsl : sl + 12 ≤ 7293034) {r28 : Int32 → Mem → Option (Int32 × Mem)} (hr28 : ∀ (x5 : Int32) (M : Mem), r28 x5 M = some (1, M') → T G (AL s) p l e room_1 s m #[Value.ref b] below meth c 9 (ce + 2) (sl + 12) (lw_Z below #[Value.ref b] s) 28 [(0, .ref b), (1, .ref (G.2.1 (9, 0, 0))), (2, .ref (G.2.1 (10, 0, 0))), (3, .ref (G.2.1 (40, 0, 0))), (4, .ref (G.2.1 (41, 0, 0))), (5, .int x5)] [] M) {x5 : Int32} {M : Mem}  (h : f_L_law_357 xs L r28 x5 M = some (1, M')) : T G (AL s) p l e room_1 s m #[Value.ref b] below meth c 9 (ce + 1) (sl + 6) (lw_Z below #[Value.ref b] s) 357 [(0, .ref b), (1, .ref (G.2.1 (9, 0, 0))), (2, .ref (G.2.1 (10, 0, 0))), (3, .ref (G.2.1 (40, 0, 0))), (4, .ref (G.2.1 (41, 0, 0))), (5, .int x5)] [] M := by
  unfold f_L_law_357 at h
  refine r_goto (pc := 357) X (tgt := 2259) dL_law_357 (by decide) ?_
  exact T_widen (k := (ce + 2)) (n := (sl + 12)) (by omega) (by omega) (T_sub (t_L_law_2259 X Y Z hr hfl (by omega) (by omega) hr28 h) ⟨rfl, rfl, rfl, rfl, rfl, rfl, trivial⟩)
def f_L_law_304 (xs : Nat → Int32) (L : Nat) (r28 : Int32 → Mem → Option (Int32 × Mem)) (x5 : Int32) (M : Mem) : Option (Int32 × Mem) :=
  if bad (x5 + 1) L then none else bnd (f_L_truncate (xs (Int32.toNatClampNeg (x5 + 1))) M) (fun r1 M2 => if bad (x5 + 1) L then none else bnd (f_X12_truncate (xs (Int32.toNatClampNeg (x5 + 1))) M2) (fun r4 M5 => bnd (f_X12_thrown  M5) (fun r7 M8 => if r7 = r1 then if r1 = 0 then if bad 0 1 then none else if (lg_cmp (M8.2.1 (40, 0, 0) (Int32.toNatClampNeg 0)) (Int32.toInt64 r4)) = 0 then f_L_law_357 xs L r28 x5 M8 else some (0, M8) else f_L_law_357 xs L r28 x5 M8 else some (0, M8))))
set_option maxHeartbeats 4000000 in
set_option maxRecDepth 100000 in
theorem t_L_law_304 {G : GG} {p : Program} {l : Launch} {e : Env} {s : State} {m : MethodId} {below : List Frame} {meth : Method} {c : Code} {b L : Nat} {xs : Nat → Int32} {M' : Mem} (X : Cx G (AL s) p s m #[Value.ref b] meth c RL cL_law 9) (Y : CxH G (AL s) l s) (Z : CxL (AL s) s b L xs) (hr : meth.sig.returnType = ret) (hfl : G.2.2.2.2 = true) {ce sl : Nat} (hce : ce + 2 ≤ 601024) (hsl : sl + 12 ≤ 7293034) {r28 : Int32 → Mem → Option (Int32 × Mem)} (hr28 : ∀ (x5 : Int32) (M : Mem), r28 x5 M = some (1, M') → T G (AL s) p l e room_1 s m #[Value.ref b] below meth c 9 (ce + 2) (sl + 12) (lw_Z below #[Value.ref b] s) 28 [(0, .ref b), (1, .ref (G.2.1 (9, 0, 0))), (2, .ref (G.2.1 (10, 0, 0))), (3, .ref (G.2.1 (40, 0, 0))), (4, .ref (G.2.1 (41, 0, 0))), (5, .int x5)] [] M) {x5 : Int32} {M : Mem}  (h : f_L_law_304 xs L r28 x5 M = some (1, M')) : T G (AL s) p l e room_1 s m #[Value.ref b] below meth c 9 ce sl (lw_Z below #[Value.ref b] s) 304 [(0, .ref b), (1, .ref (G.2.1 (9, 0, 0))), (2, .ref (G.2.1 (10, 0, 0))), (3, .ref (G.2.1 (40, 0, 0))), (4, .ref (G.2.1 (41, 0, 0))), (5, .int x5)] [] M := by
  unfold f_L_law_304 at h
  refine r_aload_n (pc := 304) X dL_law_304 rfl ?_
  refine r_aload_n (pc := 305) X dL_law_305 rfl ?_
  refine r_iload (pc := 306) X dL_law_306 rfl ?_
  refine r_iconst (pc := 308) X (v := 1) dL_law_308 (by decide) ?_
  refine r_iadd (pc := 309) X dL_law_309 ?_
  refine r_sld (pc := 310) X Z dL_law_310 h (fun h => ?_)
  refine r_aload_n (pc := 311) X dL_law_311 rfl ?_
  refine bndE h (fun r1 M2 h3 h => ?_)
  refine r_callHS3 (pc := 312) X Y sy_L_truncate myh_L_truncate ml_L_127 ⟨Nat.le_of_ble_eq_true rfl, Nat.le_of_ble_eq_true rfl, by show _ ≤ 601024; omega, by show _ ≤ 7293034; omega⟩ (fun sz => c_L_truncate Y.1 hfl  h3) (Nat.le_of_ble_eq_true rfl) dL_law_312 ?_
  refine r_istore (pc := 315) X (by decide) dL_law_315 ?_
  refine r_aload_n (pc := 317) X dL_law_317 rfl ?_
  refine r_aload_n (pc := 318) X dL_law_318 rfl ?_
  refine r_iload (pc := 319) X dL_law_319 rfl ?_
  refine r_iconst (pc := 321) X (v := 1) dL_law_321 (by decide) ?_
  refine r_iadd (pc := 322) X dL_law_322 ?_
  refine r_sld (pc := 323) X Z dL_law_323 h (fun h => ?_)
  refine bndE h (fun r4 M5 h6 h => ?_)
  refine r_callVi1 (pc := 324) X ⟨(ltb rfl), (ltb rfl)⟩ rfl vy_X12_truncate my_X12_truncate ml_L_130 ⟨Nat.le_of_ble_eq_true rfl, Nat.le_of_ble_eq_true rfl, by show _ ≤ 601024; omega, by show _ ≤ 7293034; omega⟩ (c_X12_truncate  h6) (Nat.le_of_ble_eq_true rfl) dL_law_324 ?_
  refine r_istore (pc := 327) X (by decide) dL_law_327 ?_
  refine r_aload_n (pc := 329) X dL_law_329 rfl ?_
  refine bndE h (fun r7 M8 h9 h => ?_)
  refine r_callVi0 (pc := 330) X ⟨(ltb rfl), (ltb rfl)⟩ rfl vy_X12_thrown my_X12_thrown ml_L_124 ⟨Nat.le_of_ble_eq_true rfl, Nat.le_of_ble_eq_true rfl, by show _ ≤ 601024; omega, by show _ ≤ 7293034; omega⟩ (c_X12_thrown  h9) (Nat.le_of_ble_eq_true rfl) dL_law_330 ?_
  refine r_iload (pc := 333) X dL_law_333 rfl ?_
  refine r_icmp_eq (pc := 335) X (tgt := 340) dL_law_335 (by decide) h (fun h => ?_) (fun h => ?_)
  · refine r_iload (pc := 340) X dL_law_340 rfl ?_
    refine r_if_ne (pc := 342) X (tgt := 357) dL_law_342 (by decide) h (fun h => ?_) (fun h => ?_)
    · exact T_widen (k := (ce + 1)) (n := (sl + 6)) (by omega) (by omega) (T_sub (t_L_law_357 X Y Z hr hfl (by omega) (by omega) hr28 h) ⟨rfl, rfl, rfl, rfl, rfl, rfl, trivial⟩)
    · refine r_aload_n (pc := 345) X dL_law_345 rfl ?_
      refine r_iconst (pc := 346) X (v := 0) dL_law_346 (by decide) ?_
      refine r_lald (pc := 347) X (n := 1) ⟨(ltb rfl), (ltb rfl), hfl⟩ rfl (nlt rfl) dL_law_347 h (fun h => ?_)
      refine r_iload (pc := 348) X dL_law_348 rfl ?_
      refine r_i2l (pc := 350) X dL_law_350 ?_
      refine r_lcmp (pc := 351) X dL_law_351 ?_
      refine r_if_eq (pc := 352) X (tgt := 357) dL_law_352 (by decide) h (fun h => ?_) (fun h => ?_)
      · exact T_widen (k := (ce + 1)) (n := (sl + 6)) (by omega) (by omega) (T_sub (t_L_law_357 X Y Z hr hfl (by omega) (by omega) hr28 h) ⟨rfl, rfl, rfl, rfl, rfl, rfl, trivial⟩)
      · refine r_iconst (pc := 355) X (v := 0) dL_law_355 (by decide) ?_
        exact ret0 h
  · refine r_iconst (pc := 338) X (v := 0) dL_law_338 (by decide) ?_
    exact ret0 h
def f_L_law_360 (xs : Nat → Int32) (L : Nat) (r28 : Int32 → Mem → Option (Int32 × Mem)) (x5 : Int32) (M : Mem) : Option (Int32 × Mem) :=
  bnd (f_X11_setup  M) (fun r1 M2 => bnd (f_X12_setup  M2) (fun r4 M5 => if r1 = r4 then f_L_law_2259 xs L r28 x5 M5 else some (0, M5)))
set_option maxHeartbeats 4000000 in
set_option maxRecDepth 100000 in
theorem t_L_law_360 {G : GG} {p : Program} {l : Launch} {e : Env} {s : State} {m : MethodId} {below : List Frame} {meth : Method} {c : Code} {b L : Nat} {xs : Nat → Int32} {M' : Mem} (X : Cx G (AL s) p s m #[Value.ref b] meth c RL cL_law 9) (Y : CxH G (AL s) l s) (Z : CxL (AL s) s b L xs) (hr : meth.sig.returnType = ret) (hfl : G.2.2.2.2 = true) {ce sl : Nat} (hce : ce + 2 ≤ 601024) (hsl : sl + 12 ≤ 7293034) {r28 : Int32 → Mem → Option (Int32 × Mem)} (hr28 : ∀ (x5 : Int32) (M : Mem), r28 x5 M = some (1, M') → T G (AL s) p l e room_1 s m #[Value.ref b] below meth c 9 (ce + 2) (sl + 12) (lw_Z below #[Value.ref b] s) 28 [(0, .ref b), (1, .ref (G.2.1 (9, 0, 0))), (2, .ref (G.2.1 (10, 0, 0))), (3, .ref (G.2.1 (40, 0, 0))), (4, .ref (G.2.1 (41, 0, 0))), (5, .int x5)] [] M) {x5 : Int32} {M : Mem}  (h : f_L_law_360 xs L r28 x5 M = some (1, M')) : T G (AL s) p l e room_1 s m #[Value.ref b] below meth c 9 ce sl (lw_Z below #[Value.ref b] s) 360 [(0, .ref b), (1, .ref (G.2.1 (9, 0, 0))), (2, .ref (G.2.1 (10, 0, 0))), (3, .ref (G.2.1 (40, 0, 0))), (4, .ref (G.2.1 (41, 0, 0))), (5, .int x5)] [] M := by
  unfold f_L_law_360 at h
  refine r_aload_n (pc := 360) X dL_law_360 rfl ?_
  refine bndE h (fun r1 M2 h3 h => ?_)
  refine r_callVi0 (pc := 361) X ⟨(ltb rfl), (ltb rfl)⟩ rfl vy_X11_setup my_X11_setup ml_L_131 ⟨Nat.le_of_ble_eq_true rfl, Nat.le_of_ble_eq_true rfl, by show _ ≤ 601024; omega, by show _ ≤ 7293034; omega⟩ (c_X11_setup  h3) (Nat.le_of_ble_eq_true rfl) dL_law_361 ?_
  refine r_aload_n (pc := 364) X dL_law_364 rfl ?_
  refine bndE h (fun r4 M5 h6 h => ?_)
  refine r_callVi0 (pc := 365) X ⟨(ltb rfl), (ltb rfl)⟩ rfl vy_X12_setup my_X12_setup ml_L_134 ⟨Nat.le_of_ble_eq_true rfl, Nat.le_of_ble_eq_true rfl, by show _ ≤ 601024; omega, by show _ ≤ 7293034; omega⟩ (c_X12_setup  h6) (Nat.le_of_ble_eq_true rfl) dL_law_365 ?_
  refine r_icmp_eq (pc := 368) X (tgt := 2259) dL_law_368 (by decide) h (fun h => ?_) (fun h => ?_)
  · exact T_widen (k := (ce + 2)) (n := (sl + 12)) (by omega) (by omega) (T_sub (t_L_law_2259 X Y Z hr hfl (by omega) (by omega) hr28 h) ⟨rfl, rfl, rfl, rfl, rfl, rfl, trivial⟩)
  · refine r_iconst (pc := 371) X (v := 0) dL_law_371 (by decide) ?_
    exact ret0 h
def f_L_law_373 (xs : Nat → Int32) (L : Nat) (r28 : Int32 → Mem → Option (Int32 × Mem)) (x5 : Int32) (M : Mem) : Option (Int32 × Mem) :=
  bnd (f_X11_errorCode  M) (fun r1 M2 => bnd (f_X12_errorCode  M2) (fun r4 M5 => if r1 = r4 then f_L_law_2259 xs L r28 x5 M5 else some (0, M5)))
set_option maxHeartbeats 4000000 in
set_option maxRecDepth 100000 in
theorem t_L_law_373 {G : GG} {p : Program} {l : Launch} {e : Env} {s : State} {m : MethodId} {below : List Frame} {meth : Method} {c : Code} {b L : Nat} {xs : Nat → Int32} {M' : Mem} (X : Cx G (AL s) p s m #[Value.ref b] meth c RL cL_law 9) (Y : CxH G (AL s) l s) (Z : CxL (AL s) s b L xs) (hr : meth.sig.returnType = ret) (hfl : G.2.2.2.2 = true) {ce sl : Nat} (hce : ce + 2 ≤ 601024) (hsl : sl + 12 ≤ 7293034) {r28 : Int32 → Mem → Option (Int32 × Mem)} (hr28 : ∀ (x5 : Int32) (M : Mem), r28 x5 M = some (1, M') → T G (AL s) p l e room_1 s m #[Value.ref b] below meth c 9 (ce + 2) (sl + 12) (lw_Z below #[Value.ref b] s) 28 [(0, .ref b), (1, .ref (G.2.1 (9, 0, 0))), (2, .ref (G.2.1 (10, 0, 0))), (3, .ref (G.2.1 (40, 0, 0))), (4, .ref (G.2.1 (41, 0, 0))), (5, .int x5)] [] M) {x5 : Int32} {M : Mem}  (h : f_L_law_373 xs L r28 x5 M = some (1, M')) : T G (AL s) p l e room_1 s m #[Value.ref b] below meth c 9 ce sl (lw_Z below #[Value.ref b] s) 373 [(0, .ref b), (1, .ref (G.2.1 (9, 0, 0))), (2, .ref (G.2.1 (10, 0, 0))), (3, .ref (G.2.1 (40, 0, 0))), (4, .ref (G.2.1 (41, 0, 0))), (5, .int x5)] [] M := by
  unfold f_L_law_373 at h
  refine r_aload_n (pc := 373) X dL_law_373 rfl ?_
  refine bndE h (fun r1 M2 h3 h => ?_)
  refine r_callVi0 (pc := 374) X ⟨(ltb rfl), (ltb rfl)⟩ rfl vy_X11_errorCode my_X11_errorCode ml_L_135 ⟨Nat.le_of_ble_eq_true rfl, Nat.le_of_ble_eq_true rfl, by show _ ≤ 601024; omega, by show _ ≤ 7293034; omega⟩ (c_X11_errorCode  h3) (Nat.le_of_ble_eq_true rfl) dL_law_374 ?_
  refine r_aload_n (pc := 377) X dL_law_377 rfl ?_
  refine bndE h (fun r4 M5 h6 h => ?_)
  refine r_callVi0 (pc := 378) X ⟨(ltb rfl), (ltb rfl)⟩ rfl vy_X12_errorCode my_X12_errorCode ml_L_138 ⟨Nat.le_of_ble_eq_true rfl, Nat.le_of_ble_eq_true rfl, by show _ ≤ 601024; omega, by show _ ≤ 7293034; omega⟩ (c_X12_errorCode  h6) (Nat.le_of_ble_eq_true rfl) dL_law_378 ?_
  refine r_icmp_eq (pc := 381) X (tgt := 2259) dL_law_381 (by decide) h (fun h => ?_) (fun h => ?_)
  · exact T_widen (k := (ce + 2)) (n := (sl + 12)) (by omega) (by omega) (T_sub (t_L_law_2259 X Y Z hr hfl (by omega) (by omega) hr28 h) ⟨rfl, rfl, rfl, rfl, rfl, rfl, trivial⟩)
  · refine r_iconst (pc := 384) X (v := 0) dL_law_384 (by decide) ?_
    exact ret0 h
def f_L_law_386 (xs : Nat → Int32) (L : Nat) (r28 : Int32 → Mem → Option (Int32 × Mem)) (x5 : Int32) (M : Mem) : Option (Int32 × Mem) :=
  bnd (f_X11_errorPosition  M) (fun r1 M2 => bnd (f_X12_errorPosition  M2) (fun r4 M5 => if r1 = r4 then f_L_law_2259 xs L r28 x5 M5 else some (0, M5)))
set_option maxHeartbeats 4000000 in
set_option maxRecDepth 100000 in
theorem t_L_law_386 {G : GG} {p : Program} {l : Launch} {e : Env} {s : State} {m : MethodId} {below : List Frame} {meth : Method} {c : Code} {b L : Nat} {xs : Nat → Int32} {M' : Mem} (X : Cx G (AL s) p s m #[Value.ref b] meth c RL cL_law 9) (Y : CxH G (AL s) l s) (Z : CxL (AL s) s b L xs) (hr : meth.sig.returnType = ret) (hfl : G.2.2.2.2 = true) {ce sl : Nat} (hce : ce + 2 ≤ 601024) (hsl : sl + 12 ≤ 7293034) {r28 : Int32 → Mem → Option (Int32 × Mem)} (hr28 : ∀ (x5 : Int32) (M : Mem), r28 x5 M = some (1, M') → T G (AL s) p l e room_1 s m #[Value.ref b] below meth c 9 (ce + 2) (sl + 12) (lw_Z below #[Value.ref b] s) 28 [(0, .ref b), (1, .ref (G.2.1 (9, 0, 0))), (2, .ref (G.2.1 (10, 0, 0))), (3, .ref (G.2.1 (40, 0, 0))), (4, .ref (G.2.1 (41, 0, 0))), (5, .int x5)] [] M) {x5 : Int32} {M : Mem}  (h : f_L_law_386 xs L r28 x5 M = some (1, M')) : T G (AL s) p l e room_1 s m #[Value.ref b] below meth c 9 ce sl (lw_Z below #[Value.ref b] s) 386 [(0, .ref b), (1, .ref (G.2.1 (9, 0, 0))), (2, .ref (G.2.1 (10, 0, 0))), (3, .ref (G.2.1 (40, 0, 0))), (4, .ref (G.2.1 (41, 0, 0))), (5, .int x5)] [] M := by
  unfold f_L_law_386 at h
  refine r_aload_n (pc := 386) X dL_law_386 rfl ?_
  refine bndE h (fun r1 M2 h3 h => ?_)
  refine r_callVi0 (pc := 387) X ⟨(ltb rfl), (ltb rfl)⟩ rfl vy_X11_errorPosition my_X11_errorPosition ml_L_139 ⟨Nat.le_of_ble_eq_true rfl, Nat.le_of_ble_eq_true rfl, by show _ ≤ 601024; omega, by show _ ≤ 7293034; omega⟩ (c_X11_errorPosition  h3) (Nat.le_of_ble_eq_true rfl) dL_law_387 ?_
  refine r_aload_n (pc := 390) X dL_law_390 rfl ?_
  refine bndE h (fun r4 M5 h6 h => ?_)
  refine r_callVi0 (pc := 391) X ⟨(ltb rfl), (ltb rfl)⟩ rfl vy_X12_errorPosition my_X12_errorPosition ml_L_142 ⟨Nat.le_of_ble_eq_true rfl, Nat.le_of_ble_eq_true rfl, by show _ ≤ 601024; omega, by show _ ≤ 7293034; omega⟩ (c_X12_errorPosition  h6) (Nat.le_of_ble_eq_true rfl) dL_law_391 ?_
  refine r_icmp_eq (pc := 394) X (tgt := 2259) dL_law_394 (by decide) h (fun h => ?_) (fun h => ?_)
  · exact T_widen (k := (ce + 2)) (n := (sl + 12)) (by omega) (by omega) (T_sub (t_L_law_2259 X Y Z hr hfl (by omega) (by omega) hr28 h) ⟨rfl, rfl, rfl, rfl, rfl, rfl, trivial⟩)
  · refine r_iconst (pc := 397) X (v := 0) dL_law_397 (by decide) ?_
    exact ret0 h
def f_L_law_452 (xs : Nat → Int32) (L : Nat) (r28 : Int32 → Mem → Option (Int32 × Mem)) (x5 : Int32) (M : Mem) : Option (Int32 × Mem) :=
  f_L_law_2259 xs L r28 x5 M
set_option maxHeartbeats 4000000 in
set_option maxRecDepth 100000 in
theorem t_L_law_452 {G : GG} {p : Program} {l : Launch} {e : Env} {s : State} {m : MethodId} {below : List Frame} {meth : Method} {c : Code} {b L : Nat} {xs : Nat → Int32} {M' : Mem} (X : Cx G (AL s) p s m #[Value.ref b] meth c RL cL_law 9) (Y : CxH G (AL s) l s) (Z : CxL (AL s) s b L xs) (hr : meth.sig.returnType = ret) (hfl : G.2.2.2.2 = true) {ce sl : Nat} (hce : ce + 2 ≤ 601024) (hsl : sl + 12 ≤ 7293034) {r28 : Int32 → Mem → Option (Int32 × Mem)} (hr28 : ∀ (x5 : Int32) (M : Mem), r28 x5 M = some (1, M') → T G (AL s) p l e room_1 s m #[Value.ref b] below meth c 9 (ce + 2) (sl + 12) (lw_Z below #[Value.ref b] s) 28 [(0, .ref b), (1, .ref (G.2.1 (9, 0, 0))), (2, .ref (G.2.1 (10, 0, 0))), (3, .ref (G.2.1 (40, 0, 0))), (4, .ref (G.2.1 (41, 0, 0))), (5, .int x5)] [] M) {x5 : Int32} {M : Mem}  (h : f_L_law_452 xs L r28 x5 M = some (1, M')) : T G (AL s) p l e room_1 s m #[Value.ref b] below meth c 9 (ce + 1) (sl + 6) (lw_Z below #[Value.ref b] s) 452 [(0, .ref b), (1, .ref (G.2.1 (9, 0, 0))), (2, .ref (G.2.1 (10, 0, 0))), (3, .ref (G.2.1 (40, 0, 0))), (4, .ref (G.2.1 (41, 0, 0))), (5, .int x5)] [] M := by
  unfold f_L_law_452 at h
  refine r_goto (pc := 452) X (tgt := 2259) dL_law_452 (by decide) ?_
  exact T_widen (k := (ce + 2)) (n := (sl + 12)) (by omega) (by omega) (T_sub (t_L_law_2259 X Y Z hr hfl (by omega) (by omega) hr28 h) ⟨rfl, rfl, rfl, rfl, rfl, rfl, trivial⟩)
def f_L_law_399 (xs : Nat → Int32) (L : Nat) (r28 : Int32 → Mem → Option (Int32 × Mem)) (x5 : Int32) (M : Mem) : Option (Int32 × Mem) :=
  if bad (x5 + 1) L then none else bnd (f_L_run (xs (Int32.toNatClampNeg (x5 + 1))) M) (fun r1 M2 => if bad (x5 + 1) L then none else bnd (f_X12_run (xs (Int32.toNatClampNeg (x5 + 1))) M2) (fun r4 M5 => bnd (f_X12_thrown  M5) (fun r7 M8 => if r7 = r1 then if r1 = 0 then if bad 0 1 then none else if (lg_cmp (M8.2.1 (40, 0, 0) (Int32.toNatClampNeg 0)) (Int32.toInt64 r4)) = 0 then f_L_law_452 xs L r28 x5 M8 else some (0, M8) else f_L_law_452 xs L r28 x5 M8 else some (0, M8))))
set_option maxHeartbeats 4000000 in
set_option maxRecDepth 100000 in
theorem t_L_law_399 {G : GG} {p : Program} {l : Launch} {e : Env} {s : State} {m : MethodId} {below : List Frame} {meth : Method} {c : Code} {b L : Nat} {xs : Nat → Int32} {M' : Mem} (X : Cx G (AL s) p s m #[Value.ref b] meth c RL cL_law 9) (Y : CxH G (AL s) l s) (Z : CxL (AL s) s b L xs) (hr : meth.sig.returnType = ret) (hfl : G.2.2.2.2 = true) {ce sl : Nat} (hce : ce + 2 ≤ 601024) (hsl : sl + 12 ≤ 7293034) {r28 : Int32 → Mem → Option (Int32 × Mem)} (hr28 : ∀ (x5 : Int32) (M : Mem), r28 x5 M = some (1, M') → T G (AL s) p l e room_1 s m #[Value.ref b] below meth c 9 (ce + 2) (sl + 12) (lw_Z below #[Value.ref b] s) 28 [(0, .ref b), (1, .ref (G.2.1 (9, 0, 0))), (2, .ref (G.2.1 (10, 0, 0))), (3, .ref (G.2.1 (40, 0, 0))), (4, .ref (G.2.1 (41, 0, 0))), (5, .int x5)] [] M) {x5 : Int32} {M : Mem}  (h : f_L_law_399 xs L r28 x5 M = some (1, M')) : T G (AL s) p l e room_1 s m #[Value.ref b] below meth c 9 ce sl (lw_Z below #[Value.ref b] s) 399 [(0, .ref b), (1, .ref (G.2.1 (9, 0, 0))), (2, .ref (G.2.1 (10, 0, 0))), (3, .ref (G.2.1 (40, 0, 0))), (4, .ref (G.2.1 (41, 0, 0))), (5, .int x5)] [] M := by
  unfold f_L_law_399 at h
  refine r_aload_n (pc := 399) X dL_law_399 rfl ?_
  refine r_aload_n (pc := 400) X dL_law_400 rfl ?_
  refine r_iload (pc := 401) X dL_law_401 rfl ?_
  refine r_iconst (pc := 403) X (v := 1) dL_law_403 (by decide) ?_
  refine r_iadd (pc := 404) X dL_law_404 ?_
  refine r_sld (pc := 405) X Z dL_law_405 h (fun h => ?_)
  refine r_aload_n (pc := 406) X dL_law_406 rfl ?_
  refine bndE h (fun r1 M2 h3 h => ?_)
  refine r_callHS3 (pc := 407) X Y sy_L_run myh_L_run ml_L_143 ⟨Nat.le_of_ble_eq_true rfl, Nat.le_of_ble_eq_true rfl, by show _ ≤ 601024; omega, by show _ ≤ 7293034; omega⟩ (fun sz => c_L_run Y.1 hfl  h3) (Nat.le_of_ble_eq_true rfl) dL_law_407 ?_
  refine r_istore (pc := 410) X (by decide) dL_law_410 ?_
  refine r_aload_n (pc := 412) X dL_law_412 rfl ?_
  refine r_aload_n (pc := 413) X dL_law_413 rfl ?_
  refine r_iload (pc := 414) X dL_law_414 rfl ?_
  refine r_iconst (pc := 416) X (v := 1) dL_law_416 (by decide) ?_
  refine r_iadd (pc := 417) X dL_law_417 ?_
  refine r_sld (pc := 418) X Z dL_law_418 h (fun h => ?_)
  refine bndE h (fun r4 M5 h6 h => ?_)
  refine r_callVi1 (pc := 419) X ⟨(ltb rfl), (ltb rfl)⟩ rfl vy_X12_run my_X12_run ml_L_145 ⟨Nat.le_of_ble_eq_true rfl, Nat.le_of_ble_eq_true rfl, by show _ ≤ 601024; omega, by show _ ≤ 7293034; omega⟩ (c_X12_run  h6) (Nat.le_of_ble_eq_true rfl) dL_law_419 ?_
  refine r_istore (pc := 422) X (by decide) dL_law_422 ?_
  refine r_aload_n (pc := 424) X dL_law_424 rfl ?_
  refine bndE h (fun r7 M8 h9 h => ?_)
  refine r_callVi0 (pc := 425) X ⟨(ltb rfl), (ltb rfl)⟩ rfl vy_X12_thrown my_X12_thrown ml_L_124 ⟨Nat.le_of_ble_eq_true rfl, Nat.le_of_ble_eq_true rfl, by show _ ≤ 601024; omega, by show _ ≤ 7293034; omega⟩ (c_X12_thrown  h9) (Nat.le_of_ble_eq_true rfl) dL_law_425 ?_
  refine r_iload (pc := 428) X dL_law_428 rfl ?_
  refine r_icmp_eq (pc := 430) X (tgt := 435) dL_law_430 (by decide) h (fun h => ?_) (fun h => ?_)
  · refine r_iload (pc := 435) X dL_law_435 rfl ?_
    refine r_if_ne (pc := 437) X (tgt := 452) dL_law_437 (by decide) h (fun h => ?_) (fun h => ?_)
    · exact T_widen (k := (ce + 1)) (n := (sl + 6)) (by omega) (by omega) (T_sub (t_L_law_452 X Y Z hr hfl (by omega) (by omega) hr28 h) ⟨rfl, rfl, rfl, rfl, rfl, rfl, trivial⟩)
    · refine r_aload_n (pc := 440) X dL_law_440 rfl ?_
      refine r_iconst (pc := 441) X (v := 0) dL_law_441 (by decide) ?_
      refine r_lald (pc := 442) X (n := 1) ⟨(ltb rfl), (ltb rfl), hfl⟩ rfl (nlt rfl) dL_law_442 h (fun h => ?_)
      refine r_iload (pc := 443) X dL_law_443 rfl ?_
      refine r_i2l (pc := 445) X dL_law_445 ?_
      refine r_lcmp (pc := 446) X dL_law_446 ?_
      refine r_if_eq (pc := 447) X (tgt := 452) dL_law_447 (by decide) h (fun h => ?_) (fun h => ?_)
      · exact T_widen (k := (ce + 1)) (n := (sl + 6)) (by omega) (by omega) (T_sub (t_L_law_452 X Y Z hr hfl (by omega) (by omega) hr28 h) ⟨rfl, rfl, rfl, rfl, rfl, rfl, trivial⟩)
      · refine r_iconst (pc := 450) X (v := 0) dL_law_450 (by decide) ?_
        exact ret0 h
  · refine r_iconst (pc := 433) X (v := 0) dL_law_433 (by decide) ?_
    exact ret0 h
def f_L_law_508 (xs : Nat → Int32) (L : Nat) (r28 : Int32 → Mem → Option (Int32 × Mem)) (x5 : Int32) (M : Mem) : Option (Int32 × Mem) :=
  f_L_law_2259 xs L r28 x5 M
set_option maxHeartbeats 4000000 in
set_option maxRecDepth 100000 in
theorem t_L_law_508 {G : GG} {p : Program} {l : Launch} {e : Env} {s : State} {m : MethodId} {below : List Frame} {meth : Method} {c : Code} {b L : Nat} {xs : Nat → Int32} {M' : Mem} (X : Cx G (AL s) p s m #[Value.ref b] meth c RL cL_law 9) (Y : CxH G (AL s) l s) (Z : CxL (AL s) s b L xs) (hr : meth.sig.returnType = ret) (hfl : G.2.2.2.2 = true) {ce sl : Nat} (hce : ce + 2 ≤ 601024) (hsl : sl + 12 ≤ 7293034) {r28 : Int32 → Mem → Option (Int32 × Mem)} (hr28 : ∀ (x5 : Int32) (M : Mem), r28 x5 M = some (1, M') → T G (AL s) p l e room_1 s m #[Value.ref b] below meth c 9 (ce + 2) (sl + 12) (lw_Z below #[Value.ref b] s) 28 [(0, .ref b), (1, .ref (G.2.1 (9, 0, 0))), (2, .ref (G.2.1 (10, 0, 0))), (3, .ref (G.2.1 (40, 0, 0))), (4, .ref (G.2.1 (41, 0, 0))), (5, .int x5)] [] M) {x5 : Int32} {M : Mem}  (h : f_L_law_508 xs L r28 x5 M = some (1, M')) : T G (AL s) p l e room_1 s m #[Value.ref b] below meth c 9 (ce + 1) (sl + 6) (lw_Z below #[Value.ref b] s) 508 [(0, .ref b), (1, .ref (G.2.1 (9, 0, 0))), (2, .ref (G.2.1 (10, 0, 0))), (3, .ref (G.2.1 (40, 0, 0))), (4, .ref (G.2.1 (41, 0, 0))), (5, .int x5)] [] M := by
  unfold f_L_law_508 at h
  refine r_goto (pc := 508) X (tgt := 2259) dL_law_508 (by decide) ?_
  exact T_widen (k := (ce + 2)) (n := (sl + 12)) (by omega) (by omega) (T_sub (t_L_law_2259 X Y Z hr hfl (by omega) (by omega) hr28 h) ⟨rfl, rfl, rfl, rfl, rfl, rfl, trivial⟩)
def f_L_law_455 (xs : Nat → Int32) (L : Nat) (r28 : Int32 → Mem → Option (Int32 × Mem)) (x5 : Int32) (M : Mem) : Option (Int32 × Mem) :=
  if bad (x5 + 1) L then none else bnd (f_L_fire (xs (Int32.toNatClampNeg (x5 + 1))) M) (fun r1 M2 => if bad (x5 + 1) L then none else bnd (f_X12_fire (xs (Int32.toNatClampNeg (x5 + 1))) M2) (fun r4 M5 => bnd (f_X12_thrown  M5) (fun r7 M8 => if r7 = r1 then if r1 = 0 then if bad 0 1 then none else if (lg_cmp (M8.2.1 (40, 0, 0) (Int32.toNatClampNeg 0)) (Int32.toInt64 r4)) = 0 then f_L_law_508 xs L r28 x5 M8 else some (0, M8) else f_L_law_508 xs L r28 x5 M8 else some (0, M8))))
set_option maxHeartbeats 4000000 in
set_option maxRecDepth 100000 in
theorem t_L_law_455 {G : GG} {p : Program} {l : Launch} {e : Env} {s : State} {m : MethodId} {below : List Frame} {meth : Method} {c : Code} {b L : Nat} {xs : Nat → Int32} {M' : Mem} (X : Cx G (AL s) p s m #[Value.ref b] meth c RL cL_law 9) (Y : CxH G (AL s) l s) (Z : CxL (AL s) s b L xs) (hr : meth.sig.returnType = ret) (hfl : G.2.2.2.2 = true) {ce sl : Nat} (hce : ce + 2 ≤ 601024) (hsl : sl + 12 ≤ 7293034) {r28 : Int32 → Mem → Option (Int32 × Mem)} (hr28 : ∀ (x5 : Int32) (M : Mem), r28 x5 M = some (1, M') → T G (AL s) p l e room_1 s m #[Value.ref b] below meth c 9 (ce + 2) (sl + 12) (lw_Z below #[Value.ref b] s) 28 [(0, .ref b), (1, .ref (G.2.1 (9, 0, 0))), (2, .ref (G.2.1 (10, 0, 0))), (3, .ref (G.2.1 (40, 0, 0))), (4, .ref (G.2.1 (41, 0, 0))), (5, .int x5)] [] M) {x5 : Int32} {M : Mem}  (h : f_L_law_455 xs L r28 x5 M = some (1, M')) : T G (AL s) p l e room_1 s m #[Value.ref b] below meth c 9 ce sl (lw_Z below #[Value.ref b] s) 455 [(0, .ref b), (1, .ref (G.2.1 (9, 0, 0))), (2, .ref (G.2.1 (10, 0, 0))), (3, .ref (G.2.1 (40, 0, 0))), (4, .ref (G.2.1 (41, 0, 0))), (5, .int x5)] [] M := by
  unfold f_L_law_455 at h
  refine r_aload_n (pc := 455) X dL_law_455 rfl ?_
  refine r_aload_n (pc := 456) X dL_law_456 rfl ?_
  refine r_iload (pc := 457) X dL_law_457 rfl ?_
  refine r_iconst (pc := 459) X (v := 1) dL_law_459 (by decide) ?_
  refine r_iadd (pc := 460) X dL_law_460 ?_
  refine r_sld (pc := 461) X Z dL_law_461 h (fun h => ?_)
  refine r_aload_n (pc := 462) X dL_law_462 rfl ?_
  refine bndE h (fun r1 M2 h3 h => ?_)
  refine r_callHS3 (pc := 463) X Y sy_L_fire myh_L_fire ml_L_146 ⟨Nat.le_of_ble_eq_true rfl, Nat.le_of_ble_eq_true rfl, by show _ ≤ 601024; omega, by show _ ≤ 7293034; omega⟩ (fun sz => c_L_fire Y.1 hfl  h3) (Nat.le_of_ble_eq_true rfl) dL_law_463 ?_
  refine r_istore (pc := 466) X (by decide) dL_law_466 ?_
  refine r_aload_n (pc := 468) X dL_law_468 rfl ?_
  refine r_aload_n (pc := 469) X dL_law_469 rfl ?_
  refine r_iload (pc := 470) X dL_law_470 rfl ?_
  refine r_iconst (pc := 472) X (v := 1) dL_law_472 (by decide) ?_
  refine r_iadd (pc := 473) X dL_law_473 ?_
  refine r_sld (pc := 474) X Z dL_law_474 h (fun h => ?_)
  refine bndE h (fun r4 M5 h6 h => ?_)
  refine r_callVi1 (pc := 475) X ⟨(ltb rfl), (ltb rfl)⟩ rfl vy_X12_fire my_X12_fire ml_L_148 ⟨Nat.le_of_ble_eq_true rfl, Nat.le_of_ble_eq_true rfl, by show _ ≤ 601024; omega, by show _ ≤ 7293034; omega⟩ (c_X12_fire  h6) (Nat.le_of_ble_eq_true rfl) dL_law_475 ?_
  refine r_istore (pc := 478) X (by decide) dL_law_478 ?_
  refine r_aload_n (pc := 480) X dL_law_480 rfl ?_
  refine bndE h (fun r7 M8 h9 h => ?_)
  refine r_callVi0 (pc := 481) X ⟨(ltb rfl), (ltb rfl)⟩ rfl vy_X12_thrown my_X12_thrown ml_L_124 ⟨Nat.le_of_ble_eq_true rfl, Nat.le_of_ble_eq_true rfl, by show _ ≤ 601024; omega, by show _ ≤ 7293034; omega⟩ (c_X12_thrown  h9) (Nat.le_of_ble_eq_true rfl) dL_law_481 ?_
  refine r_iload (pc := 484) X dL_law_484 rfl ?_
  refine r_icmp_eq (pc := 486) X (tgt := 491) dL_law_486 (by decide) h (fun h => ?_) (fun h => ?_)
  · refine r_iload (pc := 491) X dL_law_491 rfl ?_
    refine r_if_ne (pc := 493) X (tgt := 508) dL_law_493 (by decide) h (fun h => ?_) (fun h => ?_)
    · exact T_widen (k := (ce + 1)) (n := (sl + 6)) (by omega) (by omega) (T_sub (t_L_law_508 X Y Z hr hfl (by omega) (by omega) hr28 h) ⟨rfl, rfl, rfl, rfl, rfl, rfl, trivial⟩)
    · refine r_aload_n (pc := 496) X dL_law_496 rfl ?_
      refine r_iconst (pc := 497) X (v := 0) dL_law_497 (by decide) ?_
      refine r_lald (pc := 498) X (n := 1) ⟨(ltb rfl), (ltb rfl), hfl⟩ rfl (nlt rfl) dL_law_498 h (fun h => ?_)
      refine r_iload (pc := 499) X dL_law_499 rfl ?_
      refine r_i2l (pc := 501) X dL_law_501 ?_
      refine r_lcmp (pc := 502) X dL_law_502 ?_
      refine r_if_eq (pc := 503) X (tgt := 508) dL_law_503 (by decide) h (fun h => ?_) (fun h => ?_)
      · exact T_widen (k := (ce + 1)) (n := (sl + 6)) (by omega) (by omega) (T_sub (t_L_law_508 X Y Z hr hfl (by omega) (by omega) hr28 h) ⟨rfl, rfl, rfl, rfl, rfl, rfl, trivial⟩)
      · refine r_iconst (pc := 506) X (v := 0) dL_law_506 (by decide) ?_
        exact ret0 h
  · refine r_iconst (pc := 489) X (v := 0) dL_law_489 (by decide) ?_
    exact ret0 h
def f_L_law_511 (xs : Nat → Int32) (L : Nat) (r28 : Int32 → Mem → Option (Int32 × Mem)) (x5 : Int32) (M : Mem) : Option (Int32 × Mem) :=
  bnd (f_X11_stop  M) (fun r1 M2 => bnd (f_X12_stop  M2) (fun r4 M5 => if r1 = r4 then f_L_law_2259 xs L r28 x5 M5 else some (0, M5)))
set_option maxHeartbeats 4000000 in
set_option maxRecDepth 100000 in
theorem t_L_law_511 {G : GG} {p : Program} {l : Launch} {e : Env} {s : State} {m : MethodId} {below : List Frame} {meth : Method} {c : Code} {b L : Nat} {xs : Nat → Int32} {M' : Mem} (X : Cx G (AL s) p s m #[Value.ref b] meth c RL cL_law 9) (Y : CxH G (AL s) l s) (Z : CxL (AL s) s b L xs) (hr : meth.sig.returnType = ret) (hfl : G.2.2.2.2 = true) {ce sl : Nat} (hce : ce + 2 ≤ 601024) (hsl : sl + 12 ≤ 7293034) {r28 : Int32 → Mem → Option (Int32 × Mem)} (hr28 : ∀ (x5 : Int32) (M : Mem), r28 x5 M = some (1, M') → T G (AL s) p l e room_1 s m #[Value.ref b] below meth c 9 (ce + 2) (sl + 12) (lw_Z below #[Value.ref b] s) 28 [(0, .ref b), (1, .ref (G.2.1 (9, 0, 0))), (2, .ref (G.2.1 (10, 0, 0))), (3, .ref (G.2.1 (40, 0, 0))), (4, .ref (G.2.1 (41, 0, 0))), (5, .int x5)] [] M) {x5 : Int32} {M : Mem}  (h : f_L_law_511 xs L r28 x5 M = some (1, M')) : T G (AL s) p l e room_1 s m #[Value.ref b] below meth c 9 ce sl (lw_Z below #[Value.ref b] s) 511 [(0, .ref b), (1, .ref (G.2.1 (9, 0, 0))), (2, .ref (G.2.1 (10, 0, 0))), (3, .ref (G.2.1 (40, 0, 0))), (4, .ref (G.2.1 (41, 0, 0))), (5, .int x5)] [] M := by
  unfold f_L_law_511 at h
  refine r_aload_n (pc := 511) X dL_law_511 rfl ?_
  refine bndE h (fun r1 M2 h3 h => ?_)
  refine r_callVi0 (pc := 512) X ⟨(ltb rfl), (ltb rfl)⟩ rfl vy_X11_stop my_X11_stop ml_L_149 ⟨Nat.le_of_ble_eq_true rfl, Nat.le_of_ble_eq_true rfl, by show _ ≤ 601024; omega, by show _ ≤ 7293034; omega⟩ (c_X11_stop  h3) (Nat.le_of_ble_eq_true rfl) dL_law_512 ?_
  refine r_aload_n (pc := 515) X dL_law_515 rfl ?_
  refine bndE h (fun r4 M5 h6 h => ?_)
  refine r_callVi0 (pc := 516) X ⟨(ltb rfl), (ltb rfl)⟩ rfl vy_X12_stop my_X12_stop ml_L_152 ⟨Nat.le_of_ble_eq_true rfl, Nat.le_of_ble_eq_true rfl, by show _ ≤ 601024; omega, by show _ ≤ 7293034; omega⟩ (c_X12_stop  h6) (Nat.le_of_ble_eq_true rfl) dL_law_516 ?_
  refine r_icmp_eq (pc := 519) X (tgt := 2259) dL_law_519 (by decide) h (fun h => ?_) (fun h => ?_)
  · exact T_widen (k := (ce + 2)) (n := (sl + 12)) (by omega) (by omega) (T_sub (t_L_law_2259 X Y Z hr hfl (by omega) (by omega) hr28 h) ⟨rfl, rfl, rfl, rfl, rfl, rfl, trivial⟩)
  · refine r_iconst (pc := 522) X (v := 0) dL_law_522 (by decide) ?_
    exact ret0 h
def f_L_law_565 (xs : Nat → Int32) (L : Nat) (r28 : Int32 → Mem → Option (Int32 × Mem)) (x5 : Int32) (M : Mem) : Option (Int32 × Mem) :=
  f_L_law_2259 xs L r28 x5 M
set_option maxHeartbeats 4000000 in
set_option maxRecDepth 100000 in
theorem t_L_law_565 {G : GG} {p : Program} {l : Launch} {e : Env} {s : State} {m : MethodId} {below : List Frame} {meth : Method} {c : Code} {b L : Nat} {xs : Nat → Int32} {M' : Mem} (X : Cx G (AL s) p s m #[Value.ref b] meth c RL cL_law 9) (Y : CxH G (AL s) l s) (Z : CxL (AL s) s b L xs) (hr : meth.sig.returnType = ret) (hfl : G.2.2.2.2 = true) {ce sl : Nat} (hce : ce + 2 ≤ 601024) (hsl : sl + 12 ≤ 7293034) {r28 : Int32 → Mem → Option (Int32 × Mem)} (hr28 : ∀ (x5 : Int32) (M : Mem), r28 x5 M = some (1, M') → T G (AL s) p l e room_1 s m #[Value.ref b] below meth c 9 (ce + 2) (sl + 12) (lw_Z below #[Value.ref b] s) 28 [(0, .ref b), (1, .ref (G.2.1 (9, 0, 0))), (2, .ref (G.2.1 (10, 0, 0))), (3, .ref (G.2.1 (40, 0, 0))), (4, .ref (G.2.1 (41, 0, 0))), (5, .int x5)] [] M) {x5 : Int32} {M : Mem}  (h : f_L_law_565 xs L r28 x5 M = some (1, M')) : T G (AL s) p l e room_1 s m #[Value.ref b] below meth c 9 (ce + 1) (sl + 6) (lw_Z below #[Value.ref b] s) 565 [(0, .ref b), (1, .ref (G.2.1 (9, 0, 0))), (2, .ref (G.2.1 (10, 0, 0))), (3, .ref (G.2.1 (40, 0, 0))), (4, .ref (G.2.1 (41, 0, 0))), (5, .int x5)] [] M := by
  unfold f_L_law_565 at h
  refine r_goto (pc := 565) X (tgt := 2259) dL_law_565 (by decide) ?_
  exact T_widen (k := (ce + 2)) (n := (sl + 12)) (by omega) (by omega) (T_sub (t_L_law_2259 X Y Z hr hfl (by omega) (by omega) hr28 h) ⟨rfl, rfl, rfl, rfl, rfl, rfl, trivial⟩)
def f_L_law_524 (xs : Nat → Int32) (L : Nat) (r28 : Int32 → Mem → Option (Int32 × Mem)) (x5 : Int32) (M : Mem) : Option (Int32 × Mem) :=
  bnd (f_L_take  M) (fun r1 M2 => bnd (f_X12_take  M2) (fun r4 M5 => bnd (f_X12_thrown  M5) (fun r7 M8 => if r7 = r1 then if r1 = 0 then if bad 0 1 then none else if (lg_cmp (M8.2.1 (40, 0, 0) (Int32.toNatClampNeg 0)) (Int32.toInt64 r4)) = 0 then f_L_law_565 xs L r28 x5 M8 else some (0, M8) else f_L_law_565 xs L r28 x5 M8 else some (0, M8))))
set_option maxHeartbeats 4000000 in
set_option maxRecDepth 100000 in
theorem t_L_law_524 {G : GG} {p : Program} {l : Launch} {e : Env} {s : State} {m : MethodId} {below : List Frame} {meth : Method} {c : Code} {b L : Nat} {xs : Nat → Int32} {M' : Mem} (X : Cx G (AL s) p s m #[Value.ref b] meth c RL cL_law 9) (Y : CxH G (AL s) l s) (Z : CxL (AL s) s b L xs) (hr : meth.sig.returnType = ret) (hfl : G.2.2.2.2 = true) {ce sl : Nat} (hce : ce + 2 ≤ 601024) (hsl : sl + 12 ≤ 7293034) {r28 : Int32 → Mem → Option (Int32 × Mem)} (hr28 : ∀ (x5 : Int32) (M : Mem), r28 x5 M = some (1, M') → T G (AL s) p l e room_1 s m #[Value.ref b] below meth c 9 (ce + 2) (sl + 12) (lw_Z below #[Value.ref b] s) 28 [(0, .ref b), (1, .ref (G.2.1 (9, 0, 0))), (2, .ref (G.2.1 (10, 0, 0))), (3, .ref (G.2.1 (40, 0, 0))), (4, .ref (G.2.1 (41, 0, 0))), (5, .int x5)] [] M) {x5 : Int32} {M : Mem}  (h : f_L_law_524 xs L r28 x5 M = some (1, M')) : T G (AL s) p l e room_1 s m #[Value.ref b] below meth c 9 ce sl (lw_Z below #[Value.ref b] s) 524 [(0, .ref b), (1, .ref (G.2.1 (9, 0, 0))), (2, .ref (G.2.1 (10, 0, 0))), (3, .ref (G.2.1 (40, 0, 0))), (4, .ref (G.2.1 (41, 0, 0))), (5, .int x5)] [] M := by
  unfold f_L_law_524 at h
  refine r_aload_n (pc := 524) X dL_law_524 rfl ?_
  refine r_aload_n (pc := 525) X dL_law_525 rfl ?_
  refine bndE h (fun r1 M2 h3 h => ?_)
  refine r_callHS2 (pc := 526) X Y sy_L_take myh_L_take ml_L_153 ⟨Nat.le_of_ble_eq_true rfl, Nat.le_of_ble_eq_true rfl, by show _ ≤ 601024; omega, by show _ ≤ 7293034; omega⟩ (fun sz => c_L_take Y.1 hfl  h3) (Nat.le_of_ble_eq_true rfl) dL_law_526 ?_
  refine r_istore (pc := 529) X (by decide) dL_law_529 ?_
  refine r_aload_n (pc := 531) X dL_law_531 rfl ?_
  refine bndE h (fun r4 M5 h6 h => ?_)
  refine r_callVi0 (pc := 532) X ⟨(ltb rfl), (ltb rfl)⟩ rfl vy_X12_take my_X12_take ml_L_156 ⟨Nat.le_of_ble_eq_true rfl, Nat.le_of_ble_eq_true rfl, by show _ ≤ 601024; omega, by show _ ≤ 7293034; omega⟩ (c_X12_take  h6) (Nat.le_of_ble_eq_true rfl) dL_law_532 ?_
  refine r_istore (pc := 535) X (by decide) dL_law_535 ?_
  refine r_aload_n (pc := 537) X dL_law_537 rfl ?_
  refine bndE h (fun r7 M8 h9 h => ?_)
  refine r_callVi0 (pc := 538) X ⟨(ltb rfl), (ltb rfl)⟩ rfl vy_X12_thrown my_X12_thrown ml_L_124 ⟨Nat.le_of_ble_eq_true rfl, Nat.le_of_ble_eq_true rfl, by show _ ≤ 601024; omega, by show _ ≤ 7293034; omega⟩ (c_X12_thrown  h9) (Nat.le_of_ble_eq_true rfl) dL_law_538 ?_
  refine r_iload (pc := 541) X dL_law_541 rfl ?_
  refine r_icmp_eq (pc := 543) X (tgt := 548) dL_law_543 (by decide) h (fun h => ?_) (fun h => ?_)
  · refine r_iload (pc := 548) X dL_law_548 rfl ?_
    refine r_if_ne (pc := 550) X (tgt := 565) dL_law_550 (by decide) h (fun h => ?_) (fun h => ?_)
    · exact T_widen (k := (ce + 1)) (n := (sl + 6)) (by omega) (by omega) (T_sub (t_L_law_565 X Y Z hr hfl (by omega) (by omega) hr28 h) ⟨rfl, rfl, rfl, rfl, rfl, rfl, trivial⟩)
    · refine r_aload_n (pc := 553) X dL_law_553 rfl ?_
      refine r_iconst (pc := 554) X (v := 0) dL_law_554 (by decide) ?_
      refine r_lald (pc := 555) X (n := 1) ⟨(ltb rfl), (ltb rfl), hfl⟩ rfl (nlt rfl) dL_law_555 h (fun h => ?_)
      refine r_iload (pc := 556) X dL_law_556 rfl ?_
      refine r_i2l (pc := 558) X dL_law_558 ?_
      refine r_lcmp (pc := 559) X dL_law_559 ?_
      refine r_if_eq (pc := 560) X (tgt := 565) dL_law_560 (by decide) h (fun h => ?_) (fun h => ?_)
      · exact T_widen (k := (ce + 1)) (n := (sl + 6)) (by omega) (by omega) (T_sub (t_L_law_565 X Y Z hr hfl (by omega) (by omega) hr28 h) ⟨rfl, rfl, rfl, rfl, rfl, rfl, trivial⟩)
      · refine r_iconst (pc := 563) X (v := 0) dL_law_563 (by decide) ?_
        exact ret0 h
  · refine r_iconst (pc := 546) X (v := 0) dL_law_546 (by decide) ?_
    exact ret0 h
def f_L_law_621 (xs : Nat → Int32) (L : Nat) (r28 : Int32 → Mem → Option (Int32 × Mem)) (x5 : Int32) (M : Mem) : Option (Int32 × Mem) :=
  f_L_law_2259 xs L r28 x5 M
set_option maxHeartbeats 4000000 in
set_option maxRecDepth 100000 in
theorem t_L_law_621 {G : GG} {p : Program} {l : Launch} {e : Env} {s : State} {m : MethodId} {below : List Frame} {meth : Method} {c : Code} {b L : Nat} {xs : Nat → Int32} {M' : Mem} (X : Cx G (AL s) p s m #[Value.ref b] meth c RL cL_law 9) (Y : CxH G (AL s) l s) (Z : CxL (AL s) s b L xs) (hr : meth.sig.returnType = ret) (hfl : G.2.2.2.2 = true) {ce sl : Nat} (hce : ce + 2 ≤ 601024) (hsl : sl + 12 ≤ 7293034) {r28 : Int32 → Mem → Option (Int32 × Mem)} (hr28 : ∀ (x5 : Int32) (M : Mem), r28 x5 M = some (1, M') → T G (AL s) p l e room_1 s m #[Value.ref b] below meth c 9 (ce + 2) (sl + 12) (lw_Z below #[Value.ref b] s) 28 [(0, .ref b), (1, .ref (G.2.1 (9, 0, 0))), (2, .ref (G.2.1 (10, 0, 0))), (3, .ref (G.2.1 (40, 0, 0))), (4, .ref (G.2.1 (41, 0, 0))), (5, .int x5)] [] M) {x5 : Int32} {M : Mem}  (h : f_L_law_621 xs L r28 x5 M = some (1, M')) : T G (AL s) p l e room_1 s m #[Value.ref b] below meth c 9 (ce + 1) (sl + 6) (lw_Z below #[Value.ref b] s) 621 [(0, .ref b), (1, .ref (G.2.1 (9, 0, 0))), (2, .ref (G.2.1 (10, 0, 0))), (3, .ref (G.2.1 (40, 0, 0))), (4, .ref (G.2.1 (41, 0, 0))), (5, .int x5)] [] M := by
  unfold f_L_law_621 at h
  refine r_goto (pc := 621) X (tgt := 2259) dL_law_621 (by decide) ?_
  exact T_widen (k := (ce + 2)) (n := (sl + 12)) (by omega) (by omega) (T_sub (t_L_law_2259 X Y Z hr hfl (by omega) (by omega) hr28 h) ⟨rfl, rfl, rfl, rfl, rfl, rfl, trivial⟩)
def f_L_law_568 (xs : Nat → Int32) (L : Nat) (r28 : Int32 → Mem → Option (Int32 × Mem)) (x5 : Int32) (M : Mem) : Option (Int32 × Mem) :=
  if bad (x5 + 1) L then none else bnd (f_L_acknowledge (xs (Int32.toNatClampNeg (x5 + 1))) M) (fun r1 M2 => if bad (x5 + 1) L then none else bnd (f_X12_acknowledge (xs (Int32.toNatClampNeg (x5 + 1))) M2) (fun r4 M5 => bnd (f_X12_thrown  M5) (fun r7 M8 => if r7 = r1 then if r1 = 0 then if bad 0 1 then none else if (lg_cmp (M8.2.1 (40, 0, 0) (Int32.toNatClampNeg 0)) (Int32.toInt64 r4)) = 0 then f_L_law_621 xs L r28 x5 M8 else some (0, M8) else f_L_law_621 xs L r28 x5 M8 else some (0, M8))))
set_option maxHeartbeats 4000000 in
set_option maxRecDepth 100000 in
theorem t_L_law_568 {G : GG} {p : Program} {l : Launch} {e : Env} {s : State} {m : MethodId} {below : List Frame} {meth : Method} {c : Code} {b L : Nat} {xs : Nat → Int32} {M' : Mem} (X : Cx G (AL s) p s m #[Value.ref b] meth c RL cL_law 9) (Y : CxH G (AL s) l s) (Z : CxL (AL s) s b L xs) (hr : meth.sig.returnType = ret) (hfl : G.2.2.2.2 = true) {ce sl : Nat} (hce : ce + 2 ≤ 601024) (hsl : sl + 12 ≤ 7293034) {r28 : Int32 → Mem → Option (Int32 × Mem)} (hr28 : ∀ (x5 : Int32) (M : Mem), r28 x5 M = some (1, M') → T G (AL s) p l e room_1 s m #[Value.ref b] below meth c 9 (ce + 2) (sl + 12) (lw_Z below #[Value.ref b] s) 28 [(0, .ref b), (1, .ref (G.2.1 (9, 0, 0))), (2, .ref (G.2.1 (10, 0, 0))), (3, .ref (G.2.1 (40, 0, 0))), (4, .ref (G.2.1 (41, 0, 0))), (5, .int x5)] [] M) {x5 : Int32} {M : Mem}  (h : f_L_law_568 xs L r28 x5 M = some (1, M')) : T G (AL s) p l e room_1 s m #[Value.ref b] below meth c 9 ce sl (lw_Z below #[Value.ref b] s) 568 [(0, .ref b), (1, .ref (G.2.1 (9, 0, 0))), (2, .ref (G.2.1 (10, 0, 0))), (3, .ref (G.2.1 (40, 0, 0))), (4, .ref (G.2.1 (41, 0, 0))), (5, .int x5)] [] M := by
  unfold f_L_law_568 at h
  refine r_aload_n (pc := 568) X dL_law_568 rfl ?_
  refine r_aload_n (pc := 569) X dL_law_569 rfl ?_
  refine r_iload (pc := 570) X dL_law_570 rfl ?_
  refine r_iconst (pc := 572) X (v := 1) dL_law_572 (by decide) ?_
  refine r_iadd (pc := 573) X dL_law_573 ?_
  refine r_sld (pc := 574) X Z dL_law_574 h (fun h => ?_)
  refine r_aload_n (pc := 575) X dL_law_575 rfl ?_
  refine bndE h (fun r1 M2 h3 h => ?_)
  refine r_callHS3 (pc := 576) X Y sy_L_acknowledge myh_L_acknowledge ml_L_157 ⟨Nat.le_of_ble_eq_true rfl, Nat.le_of_ble_eq_true rfl, by show _ ≤ 601024; omega, by show _ ≤ 7293034; omega⟩ (fun sz => c_L_acknowledge Y.1 hfl  h3) (Nat.le_of_ble_eq_true rfl) dL_law_576 ?_
  refine r_istore (pc := 579) X (by decide) dL_law_579 ?_
  refine r_aload_n (pc := 581) X dL_law_581 rfl ?_
  refine r_aload_n (pc := 582) X dL_law_582 rfl ?_
  refine r_iload (pc := 583) X dL_law_583 rfl ?_
  refine r_iconst (pc := 585) X (v := 1) dL_law_585 (by decide) ?_
  refine r_iadd (pc := 586) X dL_law_586 ?_
  refine r_sld (pc := 587) X Z dL_law_587 h (fun h => ?_)
  refine bndE h (fun r4 M5 h6 h => ?_)
  refine r_callVi1 (pc := 588) X ⟨(ltb rfl), (ltb rfl)⟩ rfl vy_X12_acknowledge my_X12_acknowledge ml_L_159 ⟨Nat.le_of_ble_eq_true rfl, Nat.le_of_ble_eq_true rfl, by show _ ≤ 601024; omega, by show _ ≤ 7293034; omega⟩ (c_X12_acknowledge  h6) (Nat.le_of_ble_eq_true rfl) dL_law_588 ?_
  refine r_istore (pc := 591) X (by decide) dL_law_591 ?_
  refine r_aload_n (pc := 593) X dL_law_593 rfl ?_
  refine bndE h (fun r7 M8 h9 h => ?_)
  refine r_callVi0 (pc := 594) X ⟨(ltb rfl), (ltb rfl)⟩ rfl vy_X12_thrown my_X12_thrown ml_L_124 ⟨Nat.le_of_ble_eq_true rfl, Nat.le_of_ble_eq_true rfl, by show _ ≤ 601024; omega, by show _ ≤ 7293034; omega⟩ (c_X12_thrown  h9) (Nat.le_of_ble_eq_true rfl) dL_law_594 ?_
  refine r_iload (pc := 597) X dL_law_597 rfl ?_
  refine r_icmp_eq (pc := 599) X (tgt := 604) dL_law_599 (by decide) h (fun h => ?_) (fun h => ?_)
  · refine r_iload (pc := 604) X dL_law_604 rfl ?_
    refine r_if_ne (pc := 606) X (tgt := 621) dL_law_606 (by decide) h (fun h => ?_) (fun h => ?_)
    · exact T_widen (k := (ce + 1)) (n := (sl + 6)) (by omega) (by omega) (T_sub (t_L_law_621 X Y Z hr hfl (by omega) (by omega) hr28 h) ⟨rfl, rfl, rfl, rfl, rfl, rfl, trivial⟩)
    · refine r_aload_n (pc := 609) X dL_law_609 rfl ?_
      refine r_iconst (pc := 610) X (v := 0) dL_law_610 (by decide) ?_
      refine r_lald (pc := 611) X (n := 1) ⟨(ltb rfl), (ltb rfl), hfl⟩ rfl (nlt rfl) dL_law_611 h (fun h => ?_)
      refine r_iload (pc := 612) X dL_law_612 rfl ?_
      refine r_i2l (pc := 614) X dL_law_614 ?_
      refine r_lcmp (pc := 615) X dL_law_615 ?_
      refine r_if_eq (pc := 616) X (tgt := 621) dL_law_616 (by decide) h (fun h => ?_) (fun h => ?_)
      · exact T_widen (k := (ce + 1)) (n := (sl + 6)) (by omega) (by omega) (T_sub (t_L_law_621 X Y Z hr hfl (by omega) (by omega) hr28 h) ⟨rfl, rfl, rfl, rfl, rfl, rfl, trivial⟩)
      · refine r_iconst (pc := 619) X (v := 0) dL_law_619 (by decide) ?_
        exact ret0 h
  · refine r_iconst (pc := 602) X (v := 0) dL_law_602 (by decide) ?_
    exact ret0 h
def f_L_law_713 (xs : Nat → Int32) (L : Nat) (r28 : Int32 → Mem → Option (Int32 × Mem)) (x5 : Int32) (M : Mem) : Option (Int32 × Mem) :=
  f_L_law_2259 xs L r28 x5 M
set_option maxHeartbeats 4000000 in
set_option maxRecDepth 100000 in
theorem t_L_law_713 {G : GG} {p : Program} {l : Launch} {e : Env} {s : State} {m : MethodId} {below : List Frame} {meth : Method} {c : Code} {b L : Nat} {xs : Nat → Int32} {M' : Mem} (X : Cx G (AL s) p s m #[Value.ref b] meth c RL cL_law 9) (Y : CxH G (AL s) l s) (Z : CxL (AL s) s b L xs) (hr : meth.sig.returnType = ret) (hfl : G.2.2.2.2 = true) {ce sl : Nat} (hce : ce + 2 ≤ 601024) (hsl : sl + 12 ≤ 7293034) {r28 : Int32 → Mem → Option (Int32 × Mem)} (hr28 : ∀ (x5 : Int32) (M : Mem), r28 x5 M = some (1, M') → T G (AL s) p l e room_1 s m #[Value.ref b] below meth c 9 (ce + 2) (sl + 12) (lw_Z below #[Value.ref b] s) 28 [(0, .ref b), (1, .ref (G.2.1 (9, 0, 0))), (2, .ref (G.2.1 (10, 0, 0))), (3, .ref (G.2.1 (40, 0, 0))), (4, .ref (G.2.1 (41, 0, 0))), (5, .int x5)] [] M) {x5 : Int32} {M : Mem}  (h : f_L_law_713 xs L r28 x5 M = some (1, M')) : T G (AL s) p l e room_1 s m #[Value.ref b] below meth c 9 (ce + 2) (sl + 12) (lw_Z below #[Value.ref b] s) 713 [(0, .ref b), (1, .ref (G.2.1 (9, 0, 0))), (2, .ref (G.2.1 (10, 0, 0))), (3, .ref (G.2.1 (40, 0, 0))), (4, .ref (G.2.1 (41, 0, 0))), (5, .int x5)] [] M := by
  unfold f_L_law_713 at h
  refine r_goto (pc := 713) X (tgt := 2259) dL_law_713 (by decide) ?_
  exact T_widen (k := (ce + 2)) (n := (sl + 12)) (by omega) (by omega) (T_sub (t_L_law_2259 X Y Z hr hfl (by omega) (by omega) hr28 h) ⟨rfl, rfl, rfl, rfl, rfl, rfl, trivial⟩)
def f_L_law_624 (xs : Nat → Int32) (L : Nat) (r28 : Int32 → Mem → Option (Int32 × Mem)) (x5 : Int32) (M : Mem) : Option (Int32 × Mem) :=
  if bad (x5 + 1) L then none else if bad (x5 + 2) L then none else if bad (x5 + 3) L then none else if bad (x5 + 4) L then none else bnd (f_L_setSignal (xs (Int32.toNatClampNeg (x5 + 1))) (xs (Int32.toNatClampNeg (x5 + 2))) (xs (Int32.toNatClampNeg (x5 + 3))) (xs (Int32.toNatClampNeg (x5 + 4))) M) (fun r1 M2 => if bad (x5 + 1) L then none else if bad (x5 + 2) L then none else if bad (x5 + 3) L then none else if bad (x5 + 4) L then none else bnd (f_X12_setSignal (xs (Int32.toNatClampNeg (x5 + 1))) (xs (Int32.toNatClampNeg (x5 + 2))) (xs (Int32.toNatClampNeg (x5 + 3))) (xs (Int32.toNatClampNeg (x5 + 4))) M2) (fun r4 M5 => bnd (f_X12_thrown  M5) (fun r7 M8 => if r7 = r1 then if r1 = 0 then if bad 0 1 then none else if (lg_cmp (M8.2.1 (40, 0, 0) (Int32.toNatClampNeg 0)) (Int32.toInt64 r4)) = 0 then f_L_law_713 xs L r28 x5 M8 else some (0, M8) else f_L_law_713 xs L r28 x5 M8 else some (0, M8))))
set_option maxHeartbeats 4000000 in
set_option maxRecDepth 100000 in
theorem t_L_law_624 {G : GG} {p : Program} {l : Launch} {e : Env} {s : State} {m : MethodId} {below : List Frame} {meth : Method} {c : Code} {b L : Nat} {xs : Nat → Int32} {M' : Mem} (X : Cx G (AL s) p s m #[Value.ref b] meth c RL cL_law 9) (Y : CxH G (AL s) l s) (Z : CxL (AL s) s b L xs) (hr : meth.sig.returnType = ret) (hfl : G.2.2.2.2 = true) {ce sl : Nat} (hce : ce + 2 ≤ 601024) (hsl : sl + 12 ≤ 7293034) {r28 : Int32 → Mem → Option (Int32 × Mem)} (hr28 : ∀ (x5 : Int32) (M : Mem), r28 x5 M = some (1, M') → T G (AL s) p l e room_1 s m #[Value.ref b] below meth c 9 (ce + 2) (sl + 12) (lw_Z below #[Value.ref b] s) 28 [(0, .ref b), (1, .ref (G.2.1 (9, 0, 0))), (2, .ref (G.2.1 (10, 0, 0))), (3, .ref (G.2.1 (40, 0, 0))), (4, .ref (G.2.1 (41, 0, 0))), (5, .int x5)] [] M) {x5 : Int32} {M : Mem}  (h : f_L_law_624 xs L r28 x5 M = some (1, M')) : T G (AL s) p l e room_1 s m #[Value.ref b] below meth c 9 ce sl (lw_Z below #[Value.ref b] s) 624 [(0, .ref b), (1, .ref (G.2.1 (9, 0, 0))), (2, .ref (G.2.1 (10, 0, 0))), (3, .ref (G.2.1 (40, 0, 0))), (4, .ref (G.2.1 (41, 0, 0))), (5, .int x5)] [] M := by
  unfold f_L_law_624 at h
  refine r_aload_n (pc := 624) X dL_law_624 rfl ?_
  refine r_aload_n (pc := 625) X dL_law_625 rfl ?_
  refine r_iload (pc := 626) X dL_law_626 rfl ?_
  refine r_iconst (pc := 628) X (v := 1) dL_law_628 (by decide) ?_
  refine r_iadd (pc := 629) X dL_law_629 ?_
  refine r_sld (pc := 630) X Z dL_law_630 h (fun h => ?_)
  refine r_aload_n (pc := 631) X dL_law_631 rfl ?_
  refine r_iload (pc := 632) X dL_law_632 rfl ?_
  refine r_iconst (pc := 634) X (v := 2) dL_law_634 (by decide) ?_
  refine r_iadd (pc := 635) X dL_law_635 ?_
  refine r_sld (pc := 636) X Z dL_law_636 h (fun h => ?_)
  refine r_aload_n (pc := 637) X dL_law_637 rfl ?_
  refine r_iload (pc := 638) X dL_law_638 rfl ?_
  refine r_iconst (pc := 640) X (v := 3) dL_law_640 (by decide) ?_
  refine r_iadd (pc := 641) X dL_law_641 ?_
  refine r_sld (pc := 642) X Z dL_law_642 h (fun h => ?_)
  refine r_aload_n (pc := 643) X dL_law_643 rfl ?_
  refine r_iload (pc := 644) X dL_law_644 rfl ?_
  refine r_iconst (pc := 646) X (v := 4) dL_law_646 (by decide) ?_
  refine r_iadd (pc := 647) X dL_law_647 ?_
  refine r_sld (pc := 648) X Z dL_law_648 h (fun h => ?_)
  refine r_aload_n (pc := 649) X dL_law_649 rfl ?_
  refine bndE h (fun r1 M2 h3 h => ?_)
  refine r_callHS6 (pc := 650) X Y sy_L_setSignal myh_L_setSignal ml_L_160 ⟨Nat.le_of_ble_eq_true rfl, Nat.le_of_ble_eq_true rfl, by show _ ≤ 601024; omega, by show _ ≤ 7293034; omega⟩ (fun sz => c_L_setSignal Y.1 hfl  h3) (Nat.le_of_ble_eq_true rfl) dL_law_650 ?_
  refine r_istore (pc := 653) X (by decide) dL_law_653 ?_
  refine r_aload_n (pc := 655) X dL_law_655 rfl ?_
  refine r_aload_n (pc := 656) X dL_law_656 rfl ?_
  refine r_iload (pc := 657) X dL_law_657 rfl ?_
  refine r_iconst (pc := 659) X (v := 1) dL_law_659 (by decide) ?_
  refine r_iadd (pc := 660) X dL_law_660 ?_
  refine r_sld (pc := 661) X Z dL_law_661 h (fun h => ?_)
  refine r_aload_n (pc := 662) X dL_law_662 rfl ?_
  refine r_iload (pc := 663) X dL_law_663 rfl ?_
  refine r_iconst (pc := 665) X (v := 2) dL_law_665 (by decide) ?_
  refine r_iadd (pc := 666) X dL_law_666 ?_
  refine r_sld (pc := 667) X Z dL_law_667 h (fun h => ?_)
  refine r_aload_n (pc := 668) X dL_law_668 rfl ?_
  refine r_iload (pc := 669) X dL_law_669 rfl ?_
  refine r_iconst (pc := 671) X (v := 3) dL_law_671 (by decide) ?_
  refine r_iadd (pc := 672) X dL_law_672 ?_
  refine r_sld (pc := 673) X Z dL_law_673 h (fun h => ?_)
  refine r_aload_n (pc := 674) X dL_law_674 rfl ?_
  refine r_iload (pc := 675) X dL_law_675 rfl ?_
  refine r_iconst (pc := 677) X (v := 4) dL_law_677 (by decide) ?_
  refine r_iadd (pc := 678) X dL_law_678 ?_
  refine r_sld (pc := 679) X Z dL_law_679 h (fun h => ?_)
  refine bndE h (fun r4 M5 h6 h => ?_)
  refine r_callVi4 (pc := 680) X ⟨(ltb rfl), (ltb rfl)⟩ rfl vy_X12_setSignal my_X12_setSignal ml_L_163 ⟨Nat.le_of_ble_eq_true rfl, Nat.le_of_ble_eq_true rfl, by show _ ≤ 601024; omega, by show _ ≤ 7293034; omega⟩ (c_X12_setSignal  h6) (Nat.le_of_ble_eq_true rfl) dL_law_680 ?_
  refine r_istore (pc := 683) X (by decide) dL_law_683 ?_
  refine r_aload_n (pc := 685) X dL_law_685 rfl ?_
  refine bndE h (fun r7 M8 h9 h => ?_)
  refine r_callVi0 (pc := 686) X ⟨(ltb rfl), (ltb rfl)⟩ rfl vy_X12_thrown my_X12_thrown ml_L_124 ⟨Nat.le_of_ble_eq_true rfl, Nat.le_of_ble_eq_true rfl, by show _ ≤ 601024; omega, by show _ ≤ 7293034; omega⟩ (c_X12_thrown  h9) (Nat.le_of_ble_eq_true rfl) dL_law_686 ?_
  refine r_iload (pc := 689) X dL_law_689 rfl ?_
  refine r_icmp_eq (pc := 691) X (tgt := 696) dL_law_691 (by decide) h (fun h => ?_) (fun h => ?_)
  · refine r_iload (pc := 696) X dL_law_696 rfl ?_
    refine r_if_ne (pc := 698) X (tgt := 713) dL_law_698 (by decide) h (fun h => ?_) (fun h => ?_)
    · exact T_widen (k := (ce + 2)) (n := (sl + 12)) (by omega) (by omega) (T_sub (t_L_law_713 X Y Z hr hfl (by omega) (by omega) hr28 h) ⟨rfl, rfl, rfl, rfl, rfl, rfl, trivial⟩)
    · refine r_aload_n (pc := 701) X dL_law_701 rfl ?_
      refine r_iconst (pc := 702) X (v := 0) dL_law_702 (by decide) ?_
      refine r_lald (pc := 703) X (n := 1) ⟨(ltb rfl), (ltb rfl), hfl⟩ rfl (nlt rfl) dL_law_703 h (fun h => ?_)
      refine r_iload (pc := 704) X dL_law_704 rfl ?_
      refine r_i2l (pc := 706) X dL_law_706 ?_
      refine r_lcmp (pc := 707) X dL_law_707 ?_
      refine r_if_eq (pc := 708) X (tgt := 713) dL_law_708 (by decide) h (fun h => ?_) (fun h => ?_)
      · exact T_widen (k := (ce + 2)) (n := (sl + 12)) (by omega) (by omega) (T_sub (t_L_law_713 X Y Z hr hfl (by omega) (by omega) hr28 h) ⟨rfl, rfl, rfl, rfl, rfl, rfl, trivial⟩)
      · refine r_iconst (pc := 711) X (v := 0) dL_law_711 (by decide) ?_
        exact ret0 h
  · refine r_iconst (pc := 694) X (v := 0) dL_law_694 (by decide) ?_
    exact ret0 h
def f_L_law_781 (xs : Nat → Int32) (L : Nat) (r28 : Int32 → Mem → Option (Int32 × Mem)) (x5 : Int32) (M : Mem) : Option (Int32 × Mem) :=
  f_L_law_2259 xs L r28 x5 M
set_option maxHeartbeats 4000000 in
set_option maxRecDepth 100000 in
theorem t_L_law_781 {G : GG} {p : Program} {l : Launch} {e : Env} {s : State} {m : MethodId} {below : List Frame} {meth : Method} {c : Code} {b L : Nat} {xs : Nat → Int32} {M' : Mem} (X : Cx G (AL s) p s m #[Value.ref b] meth c RL cL_law 9) (Y : CxH G (AL s) l s) (Z : CxL (AL s) s b L xs) (hr : meth.sig.returnType = ret) (hfl : G.2.2.2.2 = true) {ce sl : Nat} (hce : ce + 2 ≤ 601024) (hsl : sl + 12 ≤ 7293034) {r28 : Int32 → Mem → Option (Int32 × Mem)} (hr28 : ∀ (x5 : Int32) (M : Mem), r28 x5 M = some (1, M') → T G (AL s) p l e room_1 s m #[Value.ref b] below meth c 9 (ce + 2) (sl + 12) (lw_Z below #[Value.ref b] s) 28 [(0, .ref b), (1, .ref (G.2.1 (9, 0, 0))), (2, .ref (G.2.1 (10, 0, 0))), (3, .ref (G.2.1 (40, 0, 0))), (4, .ref (G.2.1 (41, 0, 0))), (5, .int x5)] [] M) {x5 : Int32} {M : Mem}  (h : f_L_law_781 xs L r28 x5 M = some (1, M')) : T G (AL s) p l e room_1 s m #[Value.ref b] below meth c 9 (ce + 2) (sl + 12) (lw_Z below #[Value.ref b] s) 781 [(0, .ref b), (1, .ref (G.2.1 (9, 0, 0))), (2, .ref (G.2.1 (10, 0, 0))), (3, .ref (G.2.1 (40, 0, 0))), (4, .ref (G.2.1 (41, 0, 0))), (5, .int x5)] [] M := by
  unfold f_L_law_781 at h
  refine r_goto (pc := 781) X (tgt := 2259) dL_law_781 (by decide) ?_
  exact T_widen (k := (ce + 2)) (n := (sl + 12)) (by omega) (by omega) (T_sub (t_L_law_2259 X Y Z hr hfl (by omega) (by omega) hr28 h) ⟨rfl, rfl, rfl, rfl, rfl, rfl, trivial⟩)
def f_L_law_716 (xs : Nat → Int32) (L : Nat) (r28 : Int32 → Mem → Option (Int32 × Mem)) (x5 : Int32) (M : Mem) : Option (Int32 × Mem) :=
  if bad (x5 + 1) L then none else if bad (x5 + 2) L then none else bnd (f_L_setSample (xs (Int32.toNatClampNeg (x5 + 1))) (xs (Int32.toNatClampNeg (x5 + 2))) M) (fun r1 M2 => if bad (x5 + 1) L then none else if bad (x5 + 2) L then none else bnd (f_X12_setSample (xs (Int32.toNatClampNeg (x5 + 1))) (xs (Int32.toNatClampNeg (x5 + 2))) M2) (fun r4 M5 => bnd (f_X12_thrown  M5) (fun r7 M8 => if r7 = r1 then if r1 = 0 then if bad 0 1 then none else if (lg_cmp (M8.2.1 (40, 0, 0) (Int32.toNatClampNeg 0)) (Int32.toInt64 r4)) = 0 then f_L_law_781 xs L r28 x5 M8 else some (0, M8) else f_L_law_781 xs L r28 x5 M8 else some (0, M8))))
set_option maxHeartbeats 4000000 in
set_option maxRecDepth 100000 in
theorem t_L_law_716 {G : GG} {p : Program} {l : Launch} {e : Env} {s : State} {m : MethodId} {below : List Frame} {meth : Method} {c : Code} {b L : Nat} {xs : Nat → Int32} {M' : Mem} (X : Cx G (AL s) p s m #[Value.ref b] meth c RL cL_law 9) (Y : CxH G (AL s) l s) (Z : CxL (AL s) s b L xs) (hr : meth.sig.returnType = ret) (hfl : G.2.2.2.2 = true) {ce sl : Nat} (hce : ce + 2 ≤ 601024) (hsl : sl + 12 ≤ 7293034) {r28 : Int32 → Mem → Option (Int32 × Mem)} (hr28 : ∀ (x5 : Int32) (M : Mem), r28 x5 M = some (1, M') → T G (AL s) p l e room_1 s m #[Value.ref b] below meth c 9 (ce + 2) (sl + 12) (lw_Z below #[Value.ref b] s) 28 [(0, .ref b), (1, .ref (G.2.1 (9, 0, 0))), (2, .ref (G.2.1 (10, 0, 0))), (3, .ref (G.2.1 (40, 0, 0))), (4, .ref (G.2.1 (41, 0, 0))), (5, .int x5)] [] M) {x5 : Int32} {M : Mem}  (h : f_L_law_716 xs L r28 x5 M = some (1, M')) : T G (AL s) p l e room_1 s m #[Value.ref b] below meth c 9 ce sl (lw_Z below #[Value.ref b] s) 716 [(0, .ref b), (1, .ref (G.2.1 (9, 0, 0))), (2, .ref (G.2.1 (10, 0, 0))), (3, .ref (G.2.1 (40, 0, 0))), (4, .ref (G.2.1 (41, 0, 0))), (5, .int x5)] [] M := by
  unfold f_L_law_716 at h
  refine r_aload_n (pc := 716) X dL_law_716 rfl ?_
  refine r_aload_n (pc := 717) X dL_law_717 rfl ?_
  refine r_iload (pc := 718) X dL_law_718 rfl ?_
  refine r_iconst (pc := 720) X (v := 1) dL_law_720 (by decide) ?_
  refine r_iadd (pc := 721) X dL_law_721 ?_
  refine r_sld (pc := 722) X Z dL_law_722 h (fun h => ?_)
  refine r_aload_n (pc := 723) X dL_law_723 rfl ?_
  refine r_iload (pc := 724) X dL_law_724 rfl ?_
  refine r_iconst (pc := 726) X (v := 2) dL_law_726 (by decide) ?_
  refine r_iadd (pc := 727) X dL_law_727 ?_
  refine r_sld (pc := 728) X Z dL_law_728 h (fun h => ?_)
  refine r_aload_n (pc := 729) X dL_law_729 rfl ?_
  refine bndE h (fun r1 M2 h3 h => ?_)
  refine r_callHS4 (pc := 730) X Y sy_L_setSample myh_L_setSample ml_L_164 ⟨Nat.le_of_ble_eq_true rfl, Nat.le_of_ble_eq_true rfl, by show _ ≤ 601024; omega, by show _ ≤ 7293034; omega⟩ (fun sz => c_L_setSample Y.1 hfl  h3) (Nat.le_of_ble_eq_true rfl) dL_law_730 ?_
  refine r_istore (pc := 733) X (by decide) dL_law_733 ?_
  refine r_aload_n (pc := 735) X dL_law_735 rfl ?_
  refine r_aload_n (pc := 736) X dL_law_736 rfl ?_
  refine r_iload (pc := 737) X dL_law_737 rfl ?_
  refine r_iconst (pc := 739) X (v := 1) dL_law_739 (by decide) ?_
  refine r_iadd (pc := 740) X dL_law_740 ?_
  refine r_sld (pc := 741) X Z dL_law_741 h (fun h => ?_)
  refine r_aload_n (pc := 742) X dL_law_742 rfl ?_
  refine r_iload (pc := 743) X dL_law_743 rfl ?_
  refine r_iconst (pc := 745) X (v := 2) dL_law_745 (by decide) ?_
  refine r_iadd (pc := 746) X dL_law_746 ?_
  refine r_sld (pc := 747) X Z dL_law_747 h (fun h => ?_)
  refine bndE h (fun r4 M5 h6 h => ?_)
  refine r_callVi2 (pc := 748) X ⟨(ltb rfl), (ltb rfl)⟩ rfl vy_X12_setSample my_X12_setSample ml_L_167 ⟨Nat.le_of_ble_eq_true rfl, Nat.le_of_ble_eq_true rfl, by show _ ≤ 601024; omega, by show _ ≤ 7293034; omega⟩ (c_X12_setSample  h6) (Nat.le_of_ble_eq_true rfl) dL_law_748 ?_
  refine r_istore (pc := 751) X (by decide) dL_law_751 ?_
  refine r_aload_n (pc := 753) X dL_law_753 rfl ?_
  refine bndE h (fun r7 M8 h9 h => ?_)
  refine r_callVi0 (pc := 754) X ⟨(ltb rfl), (ltb rfl)⟩ rfl vy_X12_thrown my_X12_thrown ml_L_124 ⟨Nat.le_of_ble_eq_true rfl, Nat.le_of_ble_eq_true rfl, by show _ ≤ 601024; omega, by show _ ≤ 7293034; omega⟩ (c_X12_thrown  h9) (Nat.le_of_ble_eq_true rfl) dL_law_754 ?_
  refine r_iload (pc := 757) X dL_law_757 rfl ?_
  refine r_icmp_eq (pc := 759) X (tgt := 764) dL_law_759 (by decide) h (fun h => ?_) (fun h => ?_)
  · refine r_iload (pc := 764) X dL_law_764 rfl ?_
    refine r_if_ne (pc := 766) X (tgt := 781) dL_law_766 (by decide) h (fun h => ?_) (fun h => ?_)
    · exact T_widen (k := (ce + 2)) (n := (sl + 12)) (by omega) (by omega) (T_sub (t_L_law_781 X Y Z hr hfl (by omega) (by omega) hr28 h) ⟨rfl, rfl, rfl, rfl, rfl, rfl, trivial⟩)
    · refine r_aload_n (pc := 769) X dL_law_769 rfl ?_
      refine r_iconst (pc := 770) X (v := 0) dL_law_770 (by decide) ?_
      refine r_lald (pc := 771) X (n := 1) ⟨(ltb rfl), (ltb rfl), hfl⟩ rfl (nlt rfl) dL_law_771 h (fun h => ?_)
      refine r_iload (pc := 772) X dL_law_772 rfl ?_
      refine r_i2l (pc := 774) X dL_law_774 ?_
      refine r_lcmp (pc := 775) X dL_law_775 ?_
      refine r_if_eq (pc := 776) X (tgt := 781) dL_law_776 (by decide) h (fun h => ?_) (fun h => ?_)
      · exact T_widen (k := (ce + 2)) (n := (sl + 12)) (by omega) (by omega) (T_sub (t_L_law_781 X Y Z hr hfl (by omega) (by omega) hr28 h) ⟨rfl, rfl, rfl, rfl, rfl, rfl, trivial⟩)
      · refine r_iconst (pc := 779) X (v := 0) dL_law_779 (by decide) ?_
        exact ret0 h
  · refine r_iconst (pc := 762) X (v := 0) dL_law_762 (by decide) ?_
    exact ret0 h
def f_L_law_861 (xs : Nat → Int32) (L : Nat) (r28 : Int32 → Mem → Option (Int32 × Mem)) (x5 : Int32) (M : Mem) : Option (Int32 × Mem) :=
  f_L_law_2259 xs L r28 x5 M
set_option maxHeartbeats 4000000 in
set_option maxRecDepth 100000 in
theorem t_L_law_861 {G : GG} {p : Program} {l : Launch} {e : Env} {s : State} {m : MethodId} {below : List Frame} {meth : Method} {c : Code} {b L : Nat} {xs : Nat → Int32} {M' : Mem} (X : Cx G (AL s) p s m #[Value.ref b] meth c RL cL_law 9) (Y : CxH G (AL s) l s) (Z : CxL (AL s) s b L xs) (hr : meth.sig.returnType = ret) (hfl : G.2.2.2.2 = true) {ce sl : Nat} (hce : ce + 2 ≤ 601024) (hsl : sl + 12 ≤ 7293034) {r28 : Int32 → Mem → Option (Int32 × Mem)} (hr28 : ∀ (x5 : Int32) (M : Mem), r28 x5 M = some (1, M') → T G (AL s) p l e room_1 s m #[Value.ref b] below meth c 9 (ce + 2) (sl + 12) (lw_Z below #[Value.ref b] s) 28 [(0, .ref b), (1, .ref (G.2.1 (9, 0, 0))), (2, .ref (G.2.1 (10, 0, 0))), (3, .ref (G.2.1 (40, 0, 0))), (4, .ref (G.2.1 (41, 0, 0))), (5, .int x5)] [] M) {x5 : Int32} {M : Mem}  (h : f_L_law_861 xs L r28 x5 M = some (1, M')) : T G (AL s) p l e room_1 s m #[Value.ref b] below meth c 9 (ce + 2) (sl + 12) (lw_Z below #[Value.ref b] s) 861 [(0, .ref b), (1, .ref (G.2.1 (9, 0, 0))), (2, .ref (G.2.1 (10, 0, 0))), (3, .ref (G.2.1 (40, 0, 0))), (4, .ref (G.2.1 (41, 0, 0))), (5, .int x5)] [] M := by
  unfold f_L_law_861 at h
  refine r_goto (pc := 861) X (tgt := 2259) dL_law_861 (by decide) ?_
  exact T_widen (k := (ce + 2)) (n := (sl + 12)) (by omega) (by omega) (T_sub (t_L_law_2259 X Y Z hr hfl (by omega) (by omega) hr28 h) ⟨rfl, rfl, rfl, rfl, rfl, rfl, trivial⟩)
def f_L_law_784 (xs : Nat → Int32) (L : Nat) (r28 : Int32 → Mem → Option (Int32 × Mem)) (x5 : Int32) (M : Mem) : Option (Int32 × Mem) :=
  if bad (x5 + 1) L then none else if bad (x5 + 2) L then none else if bad (x5 + 3) L then none else bnd (f_L_setWindow (xs (Int32.toNatClampNeg (x5 + 1))) (xs (Int32.toNatClampNeg (x5 + 2))) (xs (Int32.toNatClampNeg (x5 + 3))) M) (fun r1 M2 => if bad (x5 + 1) L then none else if bad (x5 + 2) L then none else if bad (x5 + 3) L then none else bnd (f_X12_setWindow (xs (Int32.toNatClampNeg (x5 + 1))) (xs (Int32.toNatClampNeg (x5 + 2))) (xs (Int32.toNatClampNeg (x5 + 3))) M2) (fun r4 M5 => bnd (f_X12_thrown  M5) (fun r7 M8 => if r7 = r1 then if r1 = 0 then if bad 0 1 then none else if (lg_cmp (M8.2.1 (40, 0, 0) (Int32.toNatClampNeg 0)) (Int32.toInt64 r4)) = 0 then f_L_law_861 xs L r28 x5 M8 else some (0, M8) else f_L_law_861 xs L r28 x5 M8 else some (0, M8))))
set_option maxHeartbeats 4000000 in
set_option maxRecDepth 100000 in
theorem t_L_law_784 {G : GG} {p : Program} {l : Launch} {e : Env} {s : State} {m : MethodId} {below : List Frame} {meth : Method} {c : Code} {b L : Nat} {xs : Nat → Int32} {M' : Mem} (X : Cx G (AL s) p s m #[Value.ref b] meth c RL cL_law 9) (Y : CxH G (AL s) l s) (Z : CxL (AL s) s b L xs) (hr : meth.sig.returnType = ret) (hfl : G.2.2.2.2 = true) {ce sl : Nat} (hce : ce + 2 ≤ 601024) (hsl : sl + 12 ≤ 7293034) {r28 : Int32 → Mem → Option (Int32 × Mem)} (hr28 : ∀ (x5 : Int32) (M : Mem), r28 x5 M = some (1, M') → T G (AL s) p l e room_1 s m #[Value.ref b] below meth c 9 (ce + 2) (sl + 12) (lw_Z below #[Value.ref b] s) 28 [(0, .ref b), (1, .ref (G.2.1 (9, 0, 0))), (2, .ref (G.2.1 (10, 0, 0))), (3, .ref (G.2.1 (40, 0, 0))), (4, .ref (G.2.1 (41, 0, 0))), (5, .int x5)] [] M) {x5 : Int32} {M : Mem}  (h : f_L_law_784 xs L r28 x5 M = some (1, M')) : T G (AL s) p l e room_1 s m #[Value.ref b] below meth c 9 ce sl (lw_Z below #[Value.ref b] s) 784 [(0, .ref b), (1, .ref (G.2.1 (9, 0, 0))), (2, .ref (G.2.1 (10, 0, 0))), (3, .ref (G.2.1 (40, 0, 0))), (4, .ref (G.2.1 (41, 0, 0))), (5, .int x5)] [] M := by
  unfold f_L_law_784 at h
  refine r_aload_n (pc := 784) X dL_law_784 rfl ?_
  refine r_aload_n (pc := 785) X dL_law_785 rfl ?_
  refine r_iload (pc := 786) X dL_law_786 rfl ?_
  refine r_iconst (pc := 788) X (v := 1) dL_law_788 (by decide) ?_
  refine r_iadd (pc := 789) X dL_law_789 ?_
  refine r_sld (pc := 790) X Z dL_law_790 h (fun h => ?_)
  refine r_aload_n (pc := 791) X dL_law_791 rfl ?_
  refine r_iload (pc := 792) X dL_law_792 rfl ?_
  refine r_iconst (pc := 794) X (v := 2) dL_law_794 (by decide) ?_
  refine r_iadd (pc := 795) X dL_law_795 ?_
  refine r_sld (pc := 796) X Z dL_law_796 h (fun h => ?_)
  refine r_aload_n (pc := 797) X dL_law_797 rfl ?_
  refine r_iload (pc := 798) X dL_law_798 rfl ?_
  refine r_iconst (pc := 800) X (v := 3) dL_law_800 (by decide) ?_
  refine r_iadd (pc := 801) X dL_law_801 ?_
  refine r_sld (pc := 802) X Z dL_law_802 h (fun h => ?_)
  refine r_aload_n (pc := 803) X dL_law_803 rfl ?_
  refine bndE h (fun r1 M2 h3 h => ?_)
  refine r_callHS5 (pc := 804) X Y sy_L_setWindow myh_L_setWindow ml_L_168 ⟨Nat.le_of_ble_eq_true rfl, Nat.le_of_ble_eq_true rfl, by show _ ≤ 601024; omega, by show _ ≤ 7293034; omega⟩ (fun sz => c_L_setWindow Y.1 hfl  h3) (Nat.le_of_ble_eq_true rfl) dL_law_804 ?_
  refine r_istore (pc := 807) X (by decide) dL_law_807 ?_
  refine r_aload_n (pc := 809) X dL_law_809 rfl ?_
  refine r_aload_n (pc := 810) X dL_law_810 rfl ?_
  refine r_iload (pc := 811) X dL_law_811 rfl ?_
  refine r_iconst (pc := 813) X (v := 1) dL_law_813 (by decide) ?_
  refine r_iadd (pc := 814) X dL_law_814 ?_
  refine r_sld (pc := 815) X Z dL_law_815 h (fun h => ?_)
  refine r_aload_n (pc := 816) X dL_law_816 rfl ?_
  refine r_iload (pc := 817) X dL_law_817 rfl ?_
  refine r_iconst (pc := 819) X (v := 2) dL_law_819 (by decide) ?_
  refine r_iadd (pc := 820) X dL_law_820 ?_
  refine r_sld (pc := 821) X Z dL_law_821 h (fun h => ?_)
  refine r_aload_n (pc := 822) X dL_law_822 rfl ?_
  refine r_iload (pc := 823) X dL_law_823 rfl ?_
  refine r_iconst (pc := 825) X (v := 3) dL_law_825 (by decide) ?_
  refine r_iadd (pc := 826) X dL_law_826 ?_
  refine r_sld (pc := 827) X Z dL_law_827 h (fun h => ?_)
  refine bndE h (fun r4 M5 h6 h => ?_)
  refine r_callVi3 (pc := 828) X ⟨(ltb rfl), (ltb rfl)⟩ rfl vy_X12_setWindow my_X12_setWindow ml_L_171 ⟨Nat.le_of_ble_eq_true rfl, Nat.le_of_ble_eq_true rfl, by show _ ≤ 601024; omega, by show _ ≤ 7293034; omega⟩ (c_X12_setWindow  h6) (Nat.le_of_ble_eq_true rfl) dL_law_828 ?_
  refine r_istore (pc := 831) X (by decide) dL_law_831 ?_
  refine r_aload_n (pc := 833) X dL_law_833 rfl ?_
  refine bndE h (fun r7 M8 h9 h => ?_)
  refine r_callVi0 (pc := 834) X ⟨(ltb rfl), (ltb rfl)⟩ rfl vy_X12_thrown my_X12_thrown ml_L_124 ⟨Nat.le_of_ble_eq_true rfl, Nat.le_of_ble_eq_true rfl, by show _ ≤ 601024; omega, by show _ ≤ 7293034; omega⟩ (c_X12_thrown  h9) (Nat.le_of_ble_eq_true rfl) dL_law_834 ?_
  refine r_iload (pc := 837) X dL_law_837 rfl ?_
  refine r_icmp_eq (pc := 839) X (tgt := 844) dL_law_839 (by decide) h (fun h => ?_) (fun h => ?_)
  · refine r_iload (pc := 844) X dL_law_844 rfl ?_
    refine r_if_ne (pc := 846) X (tgt := 861) dL_law_846 (by decide) h (fun h => ?_) (fun h => ?_)
    · exact T_widen (k := (ce + 2)) (n := (sl + 12)) (by omega) (by omega) (T_sub (t_L_law_861 X Y Z hr hfl (by omega) (by omega) hr28 h) ⟨rfl, rfl, rfl, rfl, rfl, rfl, trivial⟩)
    · refine r_aload_n (pc := 849) X dL_law_849 rfl ?_
      refine r_iconst (pc := 850) X (v := 0) dL_law_850 (by decide) ?_
      refine r_lald (pc := 851) X (n := 1) ⟨(ltb rfl), (ltb rfl), hfl⟩ rfl (nlt rfl) dL_law_851 h (fun h => ?_)
      refine r_iload (pc := 852) X dL_law_852 rfl ?_
      refine r_i2l (pc := 854) X dL_law_854 ?_
      refine r_lcmp (pc := 855) X dL_law_855 ?_
      refine r_if_eq (pc := 856) X (tgt := 861) dL_law_856 (by decide) h (fun h => ?_) (fun h => ?_)
      · exact T_widen (k := (ce + 2)) (n := (sl + 12)) (by omega) (by omega) (T_sub (t_L_law_861 X Y Z hr hfl (by omega) (by omega) hr28 h) ⟨rfl, rfl, rfl, rfl, rfl, rfl, trivial⟩)
      · refine r_iconst (pc := 859) X (v := 0) dL_law_859 (by decide) ?_
        exact ret0 h
  · refine r_iconst (pc := 842) X (v := 0) dL_law_842 (by decide) ?_
    exact ret0 h
def f_L_law_917 (xs : Nat → Int32) (L : Nat) (r28 : Int32 → Mem → Option (Int32 × Mem)) (x5 : Int32) (M : Mem) : Option (Int32 × Mem) :=
  f_L_law_2259 xs L r28 x5 M
set_option maxHeartbeats 4000000 in
set_option maxRecDepth 100000 in
theorem t_L_law_917 {G : GG} {p : Program} {l : Launch} {e : Env} {s : State} {m : MethodId} {below : List Frame} {meth : Method} {c : Code} {b L : Nat} {xs : Nat → Int32} {M' : Mem} (X : Cx G (AL s) p s m #[Value.ref b] meth c RL cL_law 9) (Y : CxH G (AL s) l s) (Z : CxL (AL s) s b L xs) (hr : meth.sig.returnType = ret) (hfl : G.2.2.2.2 = true) {ce sl : Nat} (hce : ce + 2 ≤ 601024) (hsl : sl + 12 ≤ 7293034) {r28 : Int32 → Mem → Option (Int32 × Mem)} (hr28 : ∀ (x5 : Int32) (M : Mem), r28 x5 M = some (1, M') → T G (AL s) p l e room_1 s m #[Value.ref b] below meth c 9 (ce + 2) (sl + 12) (lw_Z below #[Value.ref b] s) 28 [(0, .ref b), (1, .ref (G.2.1 (9, 0, 0))), (2, .ref (G.2.1 (10, 0, 0))), (3, .ref (G.2.1 (40, 0, 0))), (4, .ref (G.2.1 (41, 0, 0))), (5, .int x5)] [] M) {x5 : Int32} {M : Mem}  (h : f_L_law_917 xs L r28 x5 M = some (1, M')) : T G (AL s) p l e room_1 s m #[Value.ref b] below meth c 9 (ce + 1) (sl + 6) (lw_Z below #[Value.ref b] s) 917 [(0, .ref b), (1, .ref (G.2.1 (9, 0, 0))), (2, .ref (G.2.1 (10, 0, 0))), (3, .ref (G.2.1 (40, 0, 0))), (4, .ref (G.2.1 (41, 0, 0))), (5, .int x5)] [] M := by
  unfold f_L_law_917 at h
  refine r_goto (pc := 917) X (tgt := 2259) dL_law_917 (by decide) ?_
  exact T_widen (k := (ce + 2)) (n := (sl + 12)) (by omega) (by omega) (T_sub (t_L_law_2259 X Y Z hr hfl (by omega) (by omega) hr28 h) ⟨rfl, rfl, rfl, rfl, rfl, rfl, trivial⟩)
def f_L_law_864 (xs : Nat → Int32) (L : Nat) (r28 : Int32 → Mem → Option (Int32 × Mem)) (x5 : Int32) (M : Mem) : Option (Int32 × Mem) :=
  if bad (x5 + 1) L then none else bnd (f_L_setPace (xs (Int32.toNatClampNeg (x5 + 1))) M) (fun r1 M2 => if bad (x5 + 1) L then none else bnd (f_X12_setPace (xs (Int32.toNatClampNeg (x5 + 1))) M2) (fun r4 M5 => bnd (f_X12_thrown  M5) (fun r7 M8 => if r7 = r1 then if r1 = 0 then if bad 0 1 then none else if (lg_cmp (M8.2.1 (40, 0, 0) (Int32.toNatClampNeg 0)) (Int32.toInt64 r4)) = 0 then f_L_law_917 xs L r28 x5 M8 else some (0, M8) else f_L_law_917 xs L r28 x5 M8 else some (0, M8))))
set_option maxHeartbeats 4000000 in
set_option maxRecDepth 100000 in
theorem t_L_law_864 {G : GG} {p : Program} {l : Launch} {e : Env} {s : State} {m : MethodId} {below : List Frame} {meth : Method} {c : Code} {b L : Nat} {xs : Nat → Int32} {M' : Mem} (X : Cx G (AL s) p s m #[Value.ref b] meth c RL cL_law 9) (Y : CxH G (AL s) l s) (Z : CxL (AL s) s b L xs) (hr : meth.sig.returnType = ret) (hfl : G.2.2.2.2 = true) {ce sl : Nat} (hce : ce + 2 ≤ 601024) (hsl : sl + 12 ≤ 7293034) {r28 : Int32 → Mem → Option (Int32 × Mem)} (hr28 : ∀ (x5 : Int32) (M : Mem), r28 x5 M = some (1, M') → T G (AL s) p l e room_1 s m #[Value.ref b] below meth c 9 (ce + 2) (sl + 12) (lw_Z below #[Value.ref b] s) 28 [(0, .ref b), (1, .ref (G.2.1 (9, 0, 0))), (2, .ref (G.2.1 (10, 0, 0))), (3, .ref (G.2.1 (40, 0, 0))), (4, .ref (G.2.1 (41, 0, 0))), (5, .int x5)] [] M) {x5 : Int32} {M : Mem}  (h : f_L_law_864 xs L r28 x5 M = some (1, M')) : T G (AL s) p l e room_1 s m #[Value.ref b] below meth c 9 ce sl (lw_Z below #[Value.ref b] s) 864 [(0, .ref b), (1, .ref (G.2.1 (9, 0, 0))), (2, .ref (G.2.1 (10, 0, 0))), (3, .ref (G.2.1 (40, 0, 0))), (4, .ref (G.2.1 (41, 0, 0))), (5, .int x5)] [] M := by
  unfold f_L_law_864 at h
  refine r_aload_n (pc := 864) X dL_law_864 rfl ?_
  refine r_aload_n (pc := 865) X dL_law_865 rfl ?_
  refine r_iload (pc := 866) X dL_law_866 rfl ?_
  refine r_iconst (pc := 868) X (v := 1) dL_law_868 (by decide) ?_
  refine r_iadd (pc := 869) X dL_law_869 ?_
  refine r_sld (pc := 870) X Z dL_law_870 h (fun h => ?_)
  refine r_aload_n (pc := 871) X dL_law_871 rfl ?_
  refine bndE h (fun r1 M2 h3 h => ?_)
  refine r_callHS3 (pc := 872) X Y sy_L_setPace myh_L_setPace ml_L_172 ⟨Nat.le_of_ble_eq_true rfl, Nat.le_of_ble_eq_true rfl, by show _ ≤ 601024; omega, by show _ ≤ 7293034; omega⟩ (fun sz => c_L_setPace Y.1 hfl  h3) (Nat.le_of_ble_eq_true rfl) dL_law_872 ?_
  refine r_istore (pc := 875) X (by decide) dL_law_875 ?_
  refine r_aload_n (pc := 877) X dL_law_877 rfl ?_
  refine r_aload_n (pc := 878) X dL_law_878 rfl ?_
  refine r_iload (pc := 879) X dL_law_879 rfl ?_
  refine r_iconst (pc := 881) X (v := 1) dL_law_881 (by decide) ?_
  refine r_iadd (pc := 882) X dL_law_882 ?_
  refine r_sld (pc := 883) X Z dL_law_883 h (fun h => ?_)
  refine bndE h (fun r4 M5 h6 h => ?_)
  refine r_callVi1 (pc := 884) X ⟨(ltb rfl), (ltb rfl)⟩ rfl vy_X12_setPace my_X12_setPace ml_L_174 ⟨Nat.le_of_ble_eq_true rfl, Nat.le_of_ble_eq_true rfl, by show _ ≤ 601024; omega, by show _ ≤ 7293034; omega⟩ (c_X12_setPace  h6) (Nat.le_of_ble_eq_true rfl) dL_law_884 ?_
  refine r_istore (pc := 887) X (by decide) dL_law_887 ?_
  refine r_aload_n (pc := 889) X dL_law_889 rfl ?_
  refine bndE h (fun r7 M8 h9 h => ?_)
  refine r_callVi0 (pc := 890) X ⟨(ltb rfl), (ltb rfl)⟩ rfl vy_X12_thrown my_X12_thrown ml_L_124 ⟨Nat.le_of_ble_eq_true rfl, Nat.le_of_ble_eq_true rfl, by show _ ≤ 601024; omega, by show _ ≤ 7293034; omega⟩ (c_X12_thrown  h9) (Nat.le_of_ble_eq_true rfl) dL_law_890 ?_
  refine r_iload (pc := 893) X dL_law_893 rfl ?_
  refine r_icmp_eq (pc := 895) X (tgt := 900) dL_law_895 (by decide) h (fun h => ?_) (fun h => ?_)
  · refine r_iload (pc := 900) X dL_law_900 rfl ?_
    refine r_if_ne (pc := 902) X (tgt := 917) dL_law_902 (by decide) h (fun h => ?_) (fun h => ?_)
    · exact T_widen (k := (ce + 1)) (n := (sl + 6)) (by omega) (by omega) (T_sub (t_L_law_917 X Y Z hr hfl (by omega) (by omega) hr28 h) ⟨rfl, rfl, rfl, rfl, rfl, rfl, trivial⟩)
    · refine r_aload_n (pc := 905) X dL_law_905 rfl ?_
      refine r_iconst (pc := 906) X (v := 0) dL_law_906 (by decide) ?_
      refine r_lald (pc := 907) X (n := 1) ⟨(ltb rfl), (ltb rfl), hfl⟩ rfl (nlt rfl) dL_law_907 h (fun h => ?_)
      refine r_iload (pc := 908) X dL_law_908 rfl ?_
      refine r_i2l (pc := 910) X dL_law_910 ?_
      refine r_lcmp (pc := 911) X dL_law_911 ?_
      refine r_if_eq (pc := 912) X (tgt := 917) dL_law_912 (by decide) h (fun h => ?_) (fun h => ?_)
      · exact T_widen (k := (ce + 1)) (n := (sl + 6)) (by omega) (by omega) (T_sub (t_L_law_917 X Y Z hr hfl (by omega) (by omega) hr28 h) ⟨rfl, rfl, rfl, rfl, rfl, rfl, trivial⟩)
      · refine r_iconst (pc := 915) X (v := 0) dL_law_915 (by decide) ?_
        exact ret0 h
  · refine r_iconst (pc := 898) X (v := 0) dL_law_898 (by decide) ?_
    exact ret0 h
def f_L_law_973 (xs : Nat → Int32) (L : Nat) (r28 : Int32 → Mem → Option (Int32 × Mem)) (x5 : Int32) (M : Mem) : Option (Int32 × Mem) :=
  f_L_law_2259 xs L r28 x5 M
set_option maxHeartbeats 4000000 in
set_option maxRecDepth 100000 in
theorem t_L_law_973 {G : GG} {p : Program} {l : Launch} {e : Env} {s : State} {m : MethodId} {below : List Frame} {meth : Method} {c : Code} {b L : Nat} {xs : Nat → Int32} {M' : Mem} (X : Cx G (AL s) p s m #[Value.ref b] meth c RL cL_law 9) (Y : CxH G (AL s) l s) (Z : CxL (AL s) s b L xs) (hr : meth.sig.returnType = ret) (hfl : G.2.2.2.2 = true) {ce sl : Nat} (hce : ce + 2 ≤ 601024) (hsl : sl + 12 ≤ 7293034) {r28 : Int32 → Mem → Option (Int32 × Mem)} (hr28 : ∀ (x5 : Int32) (M : Mem), r28 x5 M = some (1, M') → T G (AL s) p l e room_1 s m #[Value.ref b] below meth c 9 (ce + 2) (sl + 12) (lw_Z below #[Value.ref b] s) 28 [(0, .ref b), (1, .ref (G.2.1 (9, 0, 0))), (2, .ref (G.2.1 (10, 0, 0))), (3, .ref (G.2.1 (40, 0, 0))), (4, .ref (G.2.1 (41, 0, 0))), (5, .int x5)] [] M) {x5 : Int32} {M : Mem}  (h : f_L_law_973 xs L r28 x5 M = some (1, M')) : T G (AL s) p l e room_1 s m #[Value.ref b] below meth c 9 (ce + 1) (sl + 6) (lw_Z below #[Value.ref b] s) 973 [(0, .ref b), (1, .ref (G.2.1 (9, 0, 0))), (2, .ref (G.2.1 (10, 0, 0))), (3, .ref (G.2.1 (40, 0, 0))), (4, .ref (G.2.1 (41, 0, 0))), (5, .int x5)] [] M := by
  unfold f_L_law_973 at h
  refine r_goto (pc := 973) X (tgt := 2259) dL_law_973 (by decide) ?_
  exact T_widen (k := (ce + 2)) (n := (sl + 12)) (by omega) (by omega) (T_sub (t_L_law_2259 X Y Z hr hfl (by omega) (by omega) hr28 h) ⟨rfl, rfl, rfl, rfl, rfl, rfl, trivial⟩)
def f_L_law_920 (xs : Nat → Int32) (L : Nat) (r28 : Int32 → Mem → Option (Int32 × Mem)) (x5 : Int32) (M : Mem) : Option (Int32 × Mem) :=
  if bad (x5 + 1) L then none else bnd (f_L_state (xs (Int32.toNatClampNeg (x5 + 1))) M) (fun r1 M2 => if bad (x5 + 1) L then none else bnd (f_X12_state (xs (Int32.toNatClampNeg (x5 + 1))) M2) (fun r4 M5 => bnd (f_X12_thrown  M5) (fun r7 M8 => if r7 = r1 then if r1 = 0 then if bad 0 1 then none else if (lg_cmp (M8.2.1 (40, 0, 0) (Int32.toNatClampNeg 0)) (Int32.toInt64 r4)) = 0 then f_L_law_973 xs L r28 x5 M8 else some (0, M8) else f_L_law_973 xs L r28 x5 M8 else some (0, M8))))
set_option maxHeartbeats 4000000 in
set_option maxRecDepth 100000 in
theorem t_L_law_920 {G : GG} {p : Program} {l : Launch} {e : Env} {s : State} {m : MethodId} {below : List Frame} {meth : Method} {c : Code} {b L : Nat} {xs : Nat → Int32} {M' : Mem} (X : Cx G (AL s) p s m #[Value.ref b] meth c RL cL_law 9) (Y : CxH G (AL s) l s) (Z : CxL (AL s) s b L xs) (hr : meth.sig.returnType = ret) (hfl : G.2.2.2.2 = true) {ce sl : Nat} (hce : ce + 2 ≤ 601024) (hsl : sl + 12 ≤ 7293034) {r28 : Int32 → Mem → Option (Int32 × Mem)} (hr28 : ∀ (x5 : Int32) (M : Mem), r28 x5 M = some (1, M') → T G (AL s) p l e room_1 s m #[Value.ref b] below meth c 9 (ce + 2) (sl + 12) (lw_Z below #[Value.ref b] s) 28 [(0, .ref b), (1, .ref (G.2.1 (9, 0, 0))), (2, .ref (G.2.1 (10, 0, 0))), (3, .ref (G.2.1 (40, 0, 0))), (4, .ref (G.2.1 (41, 0, 0))), (5, .int x5)] [] M) {x5 : Int32} {M : Mem}  (h : f_L_law_920 xs L r28 x5 M = some (1, M')) : T G (AL s) p l e room_1 s m #[Value.ref b] below meth c 9 ce sl (lw_Z below #[Value.ref b] s) 920 [(0, .ref b), (1, .ref (G.2.1 (9, 0, 0))), (2, .ref (G.2.1 (10, 0, 0))), (3, .ref (G.2.1 (40, 0, 0))), (4, .ref (G.2.1 (41, 0, 0))), (5, .int x5)] [] M := by
  unfold f_L_law_920 at h
  refine r_aload_n (pc := 920) X dL_law_920 rfl ?_
  refine r_aload_n (pc := 921) X dL_law_921 rfl ?_
  refine r_iload (pc := 922) X dL_law_922 rfl ?_
  refine r_iconst (pc := 924) X (v := 1) dL_law_924 (by decide) ?_
  refine r_iadd (pc := 925) X dL_law_925 ?_
  refine r_sld (pc := 926) X Z dL_law_926 h (fun h => ?_)
  refine r_aload_n (pc := 927) X dL_law_927 rfl ?_
  refine bndE h (fun r1 M2 h3 h => ?_)
  refine r_callHS3 (pc := 928) X Y sy_L_state myh_L_state ml_L_175 ⟨Nat.le_of_ble_eq_true rfl, Nat.le_of_ble_eq_true rfl, by show _ ≤ 601024; omega, by show _ ≤ 7293034; omega⟩ (fun sz => c_L_state Y.1 hfl  h3) (Nat.le_of_ble_eq_true rfl) dL_law_928 ?_
  refine r_istore (pc := 931) X (by decide) dL_law_931 ?_
  refine r_aload_n (pc := 933) X dL_law_933 rfl ?_
  refine r_aload_n (pc := 934) X dL_law_934 rfl ?_
  refine r_iload (pc := 935) X dL_law_935 rfl ?_
  refine r_iconst (pc := 937) X (v := 1) dL_law_937 (by decide) ?_
  refine r_iadd (pc := 938) X dL_law_938 ?_
  refine r_sld (pc := 939) X Z dL_law_939 h (fun h => ?_)
  refine bndE h (fun r4 M5 h6 h => ?_)
  refine r_callVi1 (pc := 940) X ⟨(ltb rfl), (ltb rfl)⟩ rfl vy_X12_state my_X12_state ml_L_177 ⟨Nat.le_of_ble_eq_true rfl, Nat.le_of_ble_eq_true rfl, by show _ ≤ 601024; omega, by show _ ≤ 7293034; omega⟩ (c_X12_state  h6) (Nat.le_of_ble_eq_true rfl) dL_law_940 ?_
  refine r_istore (pc := 943) X (by decide) dL_law_943 ?_
  refine r_aload_n (pc := 945) X dL_law_945 rfl ?_
  refine bndE h (fun r7 M8 h9 h => ?_)
  refine r_callVi0 (pc := 946) X ⟨(ltb rfl), (ltb rfl)⟩ rfl vy_X12_thrown my_X12_thrown ml_L_124 ⟨Nat.le_of_ble_eq_true rfl, Nat.le_of_ble_eq_true rfl, by show _ ≤ 601024; omega, by show _ ≤ 7293034; omega⟩ (c_X12_thrown  h9) (Nat.le_of_ble_eq_true rfl) dL_law_946 ?_
  refine r_iload (pc := 949) X dL_law_949 rfl ?_
  refine r_icmp_eq (pc := 951) X (tgt := 956) dL_law_951 (by decide) h (fun h => ?_) (fun h => ?_)
  · refine r_iload (pc := 956) X dL_law_956 rfl ?_
    refine r_if_ne (pc := 958) X (tgt := 973) dL_law_958 (by decide) h (fun h => ?_) (fun h => ?_)
    · exact T_widen (k := (ce + 1)) (n := (sl + 6)) (by omega) (by omega) (T_sub (t_L_law_973 X Y Z hr hfl (by omega) (by omega) hr28 h) ⟨rfl, rfl, rfl, rfl, rfl, rfl, trivial⟩)
    · refine r_aload_n (pc := 961) X dL_law_961 rfl ?_
      refine r_iconst (pc := 962) X (v := 0) dL_law_962 (by decide) ?_
      refine r_lald (pc := 963) X (n := 1) ⟨(ltb rfl), (ltb rfl), hfl⟩ rfl (nlt rfl) dL_law_963 h (fun h => ?_)
      refine r_iload (pc := 964) X dL_law_964 rfl ?_
      refine r_i2l (pc := 966) X dL_law_966 ?_
      refine r_lcmp (pc := 967) X dL_law_967 ?_
      refine r_if_eq (pc := 968) X (tgt := 973) dL_law_968 (by decide) h (fun h => ?_) (fun h => ?_)
      · exact T_widen (k := (ce + 1)) (n := (sl + 6)) (by omega) (by omega) (T_sub (t_L_law_973 X Y Z hr hfl (by omega) (by omega) hr28 h) ⟨rfl, rfl, rfl, rfl, rfl, rfl, trivial⟩)
      · refine r_iconst (pc := 971) X (v := 0) dL_law_971 (by decide) ?_
        exact ret0 h
  · refine r_iconst (pc := 954) X (v := 0) dL_law_954 (by decide) ?_
    exact ret0 h
def f_L_law_1057 (xs : Nat → Int32) (L : Nat) (r28 : Int32 → Mem → Option (Int32 × Mem)) (x5 : Int32) (M : Mem) : Option (Int32 × Mem) :=
  f_L_law_2259 xs L r28 x5 M
set_option maxHeartbeats 4000000 in
set_option maxRecDepth 100000 in
theorem t_L_law_1057 {G : GG} {p : Program} {l : Launch} {e : Env} {s : State} {m : MethodId} {below : List Frame} {meth : Method} {c : Code} {b L : Nat} {xs : Nat → Int32} {M' : Mem} (X : Cx G (AL s) p s m #[Value.ref b] meth c RL cL_law 9) (Y : CxH G (AL s) l s) (Z : CxL (AL s) s b L xs) (hr : meth.sig.returnType = ret) (hfl : G.2.2.2.2 = true) {ce sl : Nat} (hce : ce + 2 ≤ 601024) (hsl : sl + 12 ≤ 7293034) {r28 : Int32 → Mem → Option (Int32 × Mem)} (hr28 : ∀ (x5 : Int32) (M : Mem), r28 x5 M = some (1, M') → T G (AL s) p l e room_1 s m #[Value.ref b] below meth c 9 (ce + 2) (sl + 12) (lw_Z below #[Value.ref b] s) 28 [(0, .ref b), (1, .ref (G.2.1 (9, 0, 0))), (2, .ref (G.2.1 (10, 0, 0))), (3, .ref (G.2.1 (40, 0, 0))), (4, .ref (G.2.1 (41, 0, 0))), (5, .int x5)] [] M) {x5 : Int32} {M : Mem}  (h : f_L_law_1057 xs L r28 x5 M = some (1, M')) : T G (AL s) p l e room_1 s m #[Value.ref b] below meth c 9 (ce + 1) (sl + 6) (lw_Z below #[Value.ref b] s) 1057 [(0, .ref b), (1, .ref (G.2.1 (9, 0, 0))), (2, .ref (G.2.1 (10, 0, 0))), (3, .ref (G.2.1 (40, 0, 0))), (4, .ref (G.2.1 (41, 0, 0))), (5, .int x5)] [] M := by
  unfold f_L_law_1057 at h
  refine r_goto (pc := 1057) X (tgt := 2259) dL_law_1057 (by decide) ?_
  exact T_widen (k := (ce + 2)) (n := (sl + 12)) (by omega) (by omega) (T_sub (t_L_law_2259 X Y Z hr hfl (by omega) (by omega) hr28 h) ⟨rfl, rfl, rfl, rfl, rfl, rfl, trivial⟩)
def f_L_law_1018 (xs : Nat → Int32) (L : Nat) (r28 : Int32 → Mem → Option (Int32 × Mem)) (x5 : Int32) (x6 : Int32) (xs0 : Int32) (M : Mem) : Option (Int32 × Mem) :=
  if bad (x5 + 2) L then none else bnd (f_X12_sequence xs0 (xs (Int32.toNatClampNeg (x5 + 2))) M) (fun r1 M2 => bnd (f_X12_thrown  M2) (fun r4 M5 => if r4 = x6 then if x6 = 0 then if bad 0 1 then none else if (lg_cmp (M5.2.1 (40, 0, 0) (Int32.toNatClampNeg 0)) (Int32.toInt64 r1)) = 0 then f_L_law_1057 xs L r28 x5 M5 else some (0, M5) else f_L_law_1057 xs L r28 x5 M5 else some (0, M5)))
set_option maxHeartbeats 4000000 in
set_option maxRecDepth 100000 in
theorem t_L_law_1018 {G : GG} {p : Program} {l : Launch} {e : Env} {s : State} {m : MethodId} {below : List Frame} {meth : Method} {c : Code} {b L : Nat} {xs : Nat → Int32} {M' : Mem} (X : Cx G (AL s) p s m #[Value.ref b] meth c RL cL_law 9) (Y : CxH G (AL s) l s) (Z : CxL (AL s) s b L xs) (hr : meth.sig.returnType = ret) (hfl : G.2.2.2.2 = true) {ce sl : Nat} (hce : ce + 2 ≤ 601024) (hsl : sl + 12 ≤ 7293034) {r28 : Int32 → Mem → Option (Int32 × Mem)} (hr28 : ∀ (x5 : Int32) (M : Mem), r28 x5 M = some (1, M') → T G (AL s) p l e room_1 s m #[Value.ref b] below meth c 9 (ce + 2) (sl + 12) (lw_Z below #[Value.ref b] s) 28 [(0, .ref b), (1, .ref (G.2.1 (9, 0, 0))), (2, .ref (G.2.1 (10, 0, 0))), (3, .ref (G.2.1 (40, 0, 0))), (4, .ref (G.2.1 (41, 0, 0))), (5, .int x5)] [] M) {x5 : Int32} {x6 : Int32} {xs0 : Int32} {M : Mem}  (h : f_L_law_1018 xs L r28 x5 x6 xs0 M = some (1, M')) : T G (AL s) p l e room_1 s m #[Value.ref b] below meth c 9 (ce + 1) (sl + 6) (lw_Z below #[Value.ref b] s) 1018 [(0, .ref b), (1, .ref (G.2.1 (9, 0, 0))), (2, .ref (G.2.1 (10, 0, 0))), (3, .ref (G.2.1 (40, 0, 0))), (4, .ref (G.2.1 (41, 0, 0))), (5, .int x5), (6, .int x6)] [.int xs0, .ref (G.2.1 (10, 0, 0))] M := by
  unfold f_L_law_1018 at h
  refine r_aload_n (pc := 1018) X dL_law_1018 rfl ?_
  refine r_iload (pc := 1019) X dL_law_1019 rfl ?_
  refine r_iconst (pc := 1021) X (v := 2) dL_law_1021 (by decide) ?_
  refine r_iadd (pc := 1022) X dL_law_1022 ?_
  refine r_sld (pc := 1023) X Z dL_law_1023 h (fun h => ?_)
  refine bndE h (fun r1 M2 h3 h => ?_)
  refine r_callVi2 (pc := 1024) X ⟨(ltb rfl), (ltb rfl)⟩ rfl vy_X12_sequence my_X12_sequence ml_L_181 ⟨Nat.le_of_ble_eq_true rfl, Nat.le_of_ble_eq_true rfl, by show _ ≤ 601024; omega, by show _ ≤ 7293034; omega⟩ (c_X12_sequence  h3) (Nat.le_of_ble_eq_true rfl) dL_law_1024 ?_
  refine r_istore (pc := 1027) X (by decide) dL_law_1027 ?_
  refine r_aload_n (pc := 1029) X dL_law_1029 rfl ?_
  refine bndE h (fun r4 M5 h6 h => ?_)
  refine r_callVi0 (pc := 1030) X ⟨(ltb rfl), (ltb rfl)⟩ rfl vy_X12_thrown my_X12_thrown ml_L_124 ⟨Nat.le_of_ble_eq_true rfl, Nat.le_of_ble_eq_true rfl, by show _ ≤ 601024; omega, by show _ ≤ 7293034; omega⟩ (c_X12_thrown  h6) (Nat.le_of_ble_eq_true rfl) dL_law_1030 ?_
  refine r_iload (pc := 1033) X dL_law_1033 rfl ?_
  refine r_icmp_eq (pc := 1035) X (tgt := 1040) dL_law_1035 (by decide) h (fun h => ?_) (fun h => ?_)
  · refine r_iload (pc := 1040) X dL_law_1040 rfl ?_
    refine r_if_ne (pc := 1042) X (tgt := 1057) dL_law_1042 (by decide) h (fun h => ?_) (fun h => ?_)
    · exact T_widen (k := (ce + 1)) (n := (sl + 6)) (by omega) (by omega) (T_sub (t_L_law_1057 X Y Z hr hfl (by omega) (by omega) hr28 h) ⟨rfl, rfl, rfl, rfl, rfl, rfl, trivial⟩)
    · refine r_aload_n (pc := 1045) X dL_law_1045 rfl ?_
      refine r_iconst (pc := 1046) X (v := 0) dL_law_1046 (by decide) ?_
      refine r_lald (pc := 1047) X (n := 1) ⟨(ltb rfl), (ltb rfl), hfl⟩ rfl (nlt rfl) dL_law_1047 h (fun h => ?_)
      refine r_iload (pc := 1048) X dL_law_1048 rfl ?_
      refine r_i2l (pc := 1050) X dL_law_1050 ?_
      refine r_lcmp (pc := 1051) X dL_law_1051 ?_
      refine r_if_eq (pc := 1052) X (tgt := 1057) dL_law_1052 (by decide) h (fun h => ?_) (fun h => ?_)
      · exact T_widen (k := (ce + 1)) (n := (sl + 6)) (by omega) (by omega) (T_sub (t_L_law_1057 X Y Z hr hfl (by omega) (by omega) hr28 h) ⟨rfl, rfl, rfl, rfl, rfl, rfl, trivial⟩)
      · refine r_iconst (pc := 1055) X (v := 0) dL_law_1055 (by decide) ?_
        exact ret0 h
  · refine r_iconst (pc := 1038) X (v := 0) dL_law_1038 (by decide) ?_
    exact ret0 h
def f_L_law_991 (xs : Nat → Int32) (L : Nat) (r28 : Int32 → Mem → Option (Int32 × Mem)) (x5 : Int32) (xs0 : Int32) (M : Mem) : Option (Int32 × Mem) :=
  if bad (x5 + 2) L then none else bnd (f_L_sequence xs0 (xs (Int32.toNatClampNeg (x5 + 2))) M) (fun r1 M2 => if bad (x5 + 1) L then none else if (xs (Int32.toNatClampNeg (x5 + 1))) = 0 then f_L_law_1018 xs L r28 x5 r1 0 M2 else f_L_law_1018 xs L r28 x5 r1 1 M2)
set_option maxHeartbeats 4000000 in
set_option maxRecDepth 100000 in
theorem t_L_law_991 {G : GG} {p : Program} {l : Launch} {e : Env} {s : State} {m : MethodId} {below : List Frame} {meth : Method} {c : Code} {b L : Nat} {xs : Nat → Int32} {M' : Mem} (X : Cx G (AL s) p s m #[Value.ref b] meth c RL cL_law 9) (Y : CxH G (AL s) l s) (Z : CxL (AL s) s b L xs) (hr : meth.sig.returnType = ret) (hfl : G.2.2.2.2 = true) {ce sl : Nat} (hce : ce + 2 ≤ 601024) (hsl : sl + 12 ≤ 7293034) {r28 : Int32 → Mem → Option (Int32 × Mem)} (hr28 : ∀ (x5 : Int32) (M : Mem), r28 x5 M = some (1, M') → T G (AL s) p l e room_1 s m #[Value.ref b] below meth c 9 (ce + 2) (sl + 12) (lw_Z below #[Value.ref b] s) 28 [(0, .ref b), (1, .ref (G.2.1 (9, 0, 0))), (2, .ref (G.2.1 (10, 0, 0))), (3, .ref (G.2.1 (40, 0, 0))), (4, .ref (G.2.1 (41, 0, 0))), (5, .int x5)] [] M) {x5 : Int32} {xs0 : Int32} {M : Mem}  (h : f_L_law_991 xs L r28 x5 xs0 M = some (1, M')) : T G (AL s) p l e room_1 s m #[Value.ref b] below meth c 9 ce sl (lw_Z below #[Value.ref b] s) 991 [(0, .ref b), (1, .ref (G.2.1 (9, 0, 0))), (2, .ref (G.2.1 (10, 0, 0))), (3, .ref (G.2.1 (40, 0, 0))), (4, .ref (G.2.1 (41, 0, 0))), (5, .int x5)] [.int xs0, .ref (G.2.1 (9, 0, 0))] M := by
  unfold f_L_law_991 at h
  refine r_aload_n (pc := 991) X dL_law_991 rfl ?_
  refine r_iload (pc := 992) X dL_law_992 rfl ?_
  refine r_iconst (pc := 994) X (v := 2) dL_law_994 (by decide) ?_
  refine r_iadd (pc := 995) X dL_law_995 ?_
  refine r_sld (pc := 996) X Z dL_law_996 h (fun h => ?_)
  refine r_aload_n (pc := 997) X dL_law_997 rfl ?_
  refine bndE h (fun r1 M2 h3 h => ?_)
  refine r_callHS4 (pc := 998) X Y sy_L_sequence myh_L_sequence ml_L_178 ⟨Nat.le_of_ble_eq_true rfl, Nat.le_of_ble_eq_true rfl, by show _ ≤ 601024; omega, by show _ ≤ 7293034; omega⟩ (fun sz => c_L_sequence Y.1 hfl  h3) (Nat.le_of_ble_eq_true rfl) dL_law_998 ?_
  refine r_istore (pc := 1001) X (by decide) dL_law_1001 ?_
  refine r_aload_n (pc := 1003) X dL_law_1003 rfl ?_
  refine r_aload_n (pc := 1004) X dL_law_1004 rfl ?_
  refine r_iload (pc := 1005) X dL_law_1005 rfl ?_
  refine r_iconst (pc := 1007) X (v := 1) dL_law_1007 (by decide) ?_
  refine r_iadd (pc := 1008) X dL_law_1008 ?_
  refine r_sld (pc := 1009) X Z dL_law_1009 h (fun h => ?_)
  refine r_if_eq (pc := 1010) X (tgt := 1017) dL_law_1010 (by decide) h (fun h => ?_) (fun h => ?_)
  · refine r_iconst (pc := 1017) X (v := 0) dL_law_1017 (by decide) ?_
    exact T_widen (k := (ce + 1)) (n := (sl + 6)) (by omega) (by omega) (T_sub (t_L_law_1018 X Y Z hr hfl (by omega) (by omega) hr28 h) ⟨rfl, rfl, rfl, rfl, rfl, rfl, rfl, trivial⟩)
  · refine r_iconst (pc := 1013) X (v := 1) dL_law_1013 (by decide) ?_
    refine r_goto (pc := 1014) X (tgt := 1018) dL_law_1014 (by decide) ?_
    exact T_widen (k := (ce + 1)) (n := (sl + 6)) (by omega) (by omega) (T_sub (t_L_law_1018 X Y Z hr hfl (by omega) (by omega) hr28 h) ⟨rfl, rfl, rfl, rfl, rfl, rfl, rfl, trivial⟩)
def f_L_law_976 (xs : Nat → Int32) (L : Nat) (r28 : Int32 → Mem → Option (Int32 × Mem)) (x5 : Int32) (M : Mem) : Option (Int32 × Mem) :=
  if bad (x5 + 1) L then none else if (xs (Int32.toNatClampNeg (x5 + 1))) = 0 then f_L_law_991 xs L r28 x5 0 M else f_L_law_991 xs L r28 x5 1 M
set_option maxHeartbeats 4000000 in
set_option maxRecDepth 100000 in
theorem t_L_law_976 {G : GG} {p : Program} {l : Launch} {e : Env} {s : State} {m : MethodId} {below : List Frame} {meth : Method} {c : Code} {b L : Nat} {xs : Nat → Int32} {M' : Mem} (X : Cx G (AL s) p s m #[Value.ref b] meth c RL cL_law 9) (Y : CxH G (AL s) l s) (Z : CxL (AL s) s b L xs) (hr : meth.sig.returnType = ret) (hfl : G.2.2.2.2 = true) {ce sl : Nat} (hce : ce + 2 ≤ 601024) (hsl : sl + 12 ≤ 7293034) {r28 : Int32 → Mem → Option (Int32 × Mem)} (hr28 : ∀ (x5 : Int32) (M : Mem), r28 x5 M = some (1, M') → T G (AL s) p l e room_1 s m #[Value.ref b] below meth c 9 (ce + 2) (sl + 12) (lw_Z below #[Value.ref b] s) 28 [(0, .ref b), (1, .ref (G.2.1 (9, 0, 0))), (2, .ref (G.2.1 (10, 0, 0))), (3, .ref (G.2.1 (40, 0, 0))), (4, .ref (G.2.1 (41, 0, 0))), (5, .int x5)] [] M) {x5 : Int32} {M : Mem}  (h : f_L_law_976 xs L r28 x5 M = some (1, M')) : T G (AL s) p l e room_1 s m #[Value.ref b] below meth c 9 ce sl (lw_Z below #[Value.ref b] s) 976 [(0, .ref b), (1, .ref (G.2.1 (9, 0, 0))), (2, .ref (G.2.1 (10, 0, 0))), (3, .ref (G.2.1 (40, 0, 0))), (4, .ref (G.2.1 (41, 0, 0))), (5, .int x5)] [] M := by
  unfold f_L_law_976 at h
  refine r_aload_n (pc := 976) X dL_law_976 rfl ?_
  refine r_aload_n (pc := 977) X dL_law_977 rfl ?_
  refine r_iload (pc := 978) X dL_law_978 rfl ?_
  refine r_iconst (pc := 980) X (v := 1) dL_law_980 (by decide) ?_
  refine r_iadd (pc := 981) X dL_law_981 ?_
  refine r_sld (pc := 982) X Z dL_law_982 h (fun h => ?_)
  refine r_if_eq (pc := 983) X (tgt := 990) dL_law_983 (by decide) h (fun h => ?_) (fun h => ?_)
  · refine r_iconst (pc := 990) X (v := 0) dL_law_990 (by decide) ?_
    exact T_widen (k := ce) (n := sl) (by omega) (by omega) (T_sub (t_L_law_991 X Y Z hr hfl (by omega) (by omega) hr28 h) ⟨rfl, rfl, rfl, rfl, rfl, rfl, trivial⟩)
  · refine r_iconst (pc := 986) X (v := 1) dL_law_986 (by decide) ?_
    refine r_goto (pc := 987) X (tgt := 991) dL_law_987 (by decide) ?_
    exact T_widen (k := ce) (n := sl) (by omega) (by omega) (T_sub (t_L_law_991 X Y Z hr hfl (by omega) (by omega) hr28 h) ⟨rfl, rfl, rfl, rfl, rfl, rfl, trivial⟩)
def f_L_law_1141 (xs : Nat → Int32) (L : Nat) (r28 : Int32 → Mem → Option (Int32 × Mem)) (x5 : Int32) (M : Mem) : Option (Int32 × Mem) :=
  f_L_law_2259 xs L r28 x5 M
set_option maxHeartbeats 4000000 in
set_option maxRecDepth 100000 in
theorem t_L_law_1141 {G : GG} {p : Program} {l : Launch} {e : Env} {s : State} {m : MethodId} {below : List Frame} {meth : Method} {c : Code} {b L : Nat} {xs : Nat → Int32} {M' : Mem} (X : Cx G (AL s) p s m #[Value.ref b] meth c RL cL_law 9) (Y : CxH G (AL s) l s) (Z : CxL (AL s) s b L xs) (hr : meth.sig.returnType = ret) (hfl : G.2.2.2.2 = true) {ce sl : Nat} (hce : ce + 2 ≤ 601024) (hsl : sl + 12 ≤ 7293034) {r28 : Int32 → Mem → Option (Int32 × Mem)} (hr28 : ∀ (x5 : Int32) (M : Mem), r28 x5 M = some (1, M') → T G (AL s) p l e room_1 s m #[Value.ref b] below meth c 9 (ce + 2) (sl + 12) (lw_Z below #[Value.ref b] s) 28 [(0, .ref b), (1, .ref (G.2.1 (9, 0, 0))), (2, .ref (G.2.1 (10, 0, 0))), (3, .ref (G.2.1 (40, 0, 0))), (4, .ref (G.2.1 (41, 0, 0))), (5, .int x5)] [] M) {x5 : Int32} {M : Mem}  (h : f_L_law_1141 xs L r28 x5 M = some (1, M')) : T G (AL s) p l e room_1 s m #[Value.ref b] below meth c 9 (ce + 1) (sl + 6) (lw_Z below #[Value.ref b] s) 1141 [(0, .ref b), (1, .ref (G.2.1 (9, 0, 0))), (2, .ref (G.2.1 (10, 0, 0))), (3, .ref (G.2.1 (40, 0, 0))), (4, .ref (G.2.1 (41, 0, 0))), (5, .int x5)] [] M := by
  unfold f_L_law_1141 at h
  refine r_goto (pc := 1141) X (tgt := 2259) dL_law_1141 (by decide) ?_
  exact T_widen (k := (ce + 2)) (n := (sl + 12)) (by omega) (by omega) (T_sub (t_L_law_2259 X Y Z hr hfl (by omega) (by omega) hr28 h) ⟨rfl, rfl, rfl, rfl, rfl, rfl, trivial⟩)
def f_L_law_1102 (xs : Nat → Int32) (L : Nat) (r28 : Int32 → Mem → Option (Int32 × Mem)) (x5 : Int32) (x6 : Int32) (xs0 : Int32) (M : Mem) : Option (Int32 × Mem) :=
  if bad (x5 + 2) L then none else bnd (f_X12_entry xs0 (xs (Int32.toNatClampNeg (x5 + 2))) M) (fun r1 M2 => bnd (f_X12_thrown  M2) (fun r4 M5 => if r4 = x6 then if x6 = 0 then if bad 0 1 then none else if (lg_cmp (M5.2.1 (40, 0, 0) (Int32.toNatClampNeg 0)) (Int32.toInt64 r1)) = 0 then f_L_law_1141 xs L r28 x5 M5 else some (0, M5) else f_L_law_1141 xs L r28 x5 M5 else some (0, M5)))
set_option maxHeartbeats 4000000 in
set_option maxRecDepth 100000 in
theorem t_L_law_1102 {G : GG} {p : Program} {l : Launch} {e : Env} {s : State} {m : MethodId} {below : List Frame} {meth : Method} {c : Code} {b L : Nat} {xs : Nat → Int32} {M' : Mem} (X : Cx G (AL s) p s m #[Value.ref b] meth c RL cL_law 9) (Y : CxH G (AL s) l s) (Z : CxL (AL s) s b L xs) (hr : meth.sig.returnType = ret) (hfl : G.2.2.2.2 = true) {ce sl : Nat} (hce : ce + 2 ≤ 601024) (hsl : sl + 12 ≤ 7293034) {r28 : Int32 → Mem → Option (Int32 × Mem)} (hr28 : ∀ (x5 : Int32) (M : Mem), r28 x5 M = some (1, M') → T G (AL s) p l e room_1 s m #[Value.ref b] below meth c 9 (ce + 2) (sl + 12) (lw_Z below #[Value.ref b] s) 28 [(0, .ref b), (1, .ref (G.2.1 (9, 0, 0))), (2, .ref (G.2.1 (10, 0, 0))), (3, .ref (G.2.1 (40, 0, 0))), (4, .ref (G.2.1 (41, 0, 0))), (5, .int x5)] [] M) {x5 : Int32} {x6 : Int32} {xs0 : Int32} {M : Mem}  (h : f_L_law_1102 xs L r28 x5 x6 xs0 M = some (1, M')) : T G (AL s) p l e room_1 s m #[Value.ref b] below meth c 9 (ce + 1) (sl + 6) (lw_Z below #[Value.ref b] s) 1102 [(0, .ref b), (1, .ref (G.2.1 (9, 0, 0))), (2, .ref (G.2.1 (10, 0, 0))), (3, .ref (G.2.1 (40, 0, 0))), (4, .ref (G.2.1 (41, 0, 0))), (5, .int x5), (6, .int x6)] [.int xs0, .ref (G.2.1 (10, 0, 0))] M := by
  unfold f_L_law_1102 at h
  refine r_aload_n (pc := 1102) X dL_law_1102 rfl ?_
  refine r_iload (pc := 1103) X dL_law_1103 rfl ?_
  refine r_iconst (pc := 1105) X (v := 2) dL_law_1105 (by decide) ?_
  refine r_iadd (pc := 1106) X dL_law_1106 ?_
  refine r_sld (pc := 1107) X Z dL_law_1107 h (fun h => ?_)
  refine bndE h (fun r1 M2 h3 h => ?_)
  refine r_callVi2 (pc := 1108) X ⟨(ltb rfl), (ltb rfl)⟩ rfl vy_X12_entry my_X12_entry ml_L_184 ⟨Nat.le_of_ble_eq_true rfl, Nat.le_of_ble_eq_true rfl, by show _ ≤ 601024; omega, by show _ ≤ 7293034; omega⟩ (c_X12_entry  h3) (Nat.le_of_ble_eq_true rfl) dL_law_1108 ?_
  refine r_istore (pc := 1111) X (by decide) dL_law_1111 ?_
  refine r_aload_n (pc := 1113) X dL_law_1113 rfl ?_
  refine bndE h (fun r4 M5 h6 h => ?_)
  refine r_callVi0 (pc := 1114) X ⟨(ltb rfl), (ltb rfl)⟩ rfl vy_X12_thrown my_X12_thrown ml_L_124 ⟨Nat.le_of_ble_eq_true rfl, Nat.le_of_ble_eq_true rfl, by show _ ≤ 601024; omega, by show _ ≤ 7293034; omega⟩ (c_X12_thrown  h6) (Nat.le_of_ble_eq_true rfl) dL_law_1114 ?_
  refine r_iload (pc := 1117) X dL_law_1117 rfl ?_
  refine r_icmp_eq (pc := 1119) X (tgt := 1124) dL_law_1119 (by decide) h (fun h => ?_) (fun h => ?_)
  · refine r_iload (pc := 1124) X dL_law_1124 rfl ?_
    refine r_if_ne (pc := 1126) X (tgt := 1141) dL_law_1126 (by decide) h (fun h => ?_) (fun h => ?_)
    · exact T_widen (k := (ce + 1)) (n := (sl + 6)) (by omega) (by omega) (T_sub (t_L_law_1141 X Y Z hr hfl (by omega) (by omega) hr28 h) ⟨rfl, rfl, rfl, rfl, rfl, rfl, trivial⟩)
    · refine r_aload_n (pc := 1129) X dL_law_1129 rfl ?_
      refine r_iconst (pc := 1130) X (v := 0) dL_law_1130 (by decide) ?_
      refine r_lald (pc := 1131) X (n := 1) ⟨(ltb rfl), (ltb rfl), hfl⟩ rfl (nlt rfl) dL_law_1131 h (fun h => ?_)
      refine r_iload (pc := 1132) X dL_law_1132 rfl ?_
      refine r_i2l (pc := 1134) X dL_law_1134 ?_
      refine r_lcmp (pc := 1135) X dL_law_1135 ?_
      refine r_if_eq (pc := 1136) X (tgt := 1141) dL_law_1136 (by decide) h (fun h => ?_) (fun h => ?_)
      · exact T_widen (k := (ce + 1)) (n := (sl + 6)) (by omega) (by omega) (T_sub (t_L_law_1141 X Y Z hr hfl (by omega) (by omega) hr28 h) ⟨rfl, rfl, rfl, rfl, rfl, rfl, trivial⟩)
      · refine r_iconst (pc := 1139) X (v := 0) dL_law_1139 (by decide) ?_
        exact ret0 h
  · refine r_iconst (pc := 1122) X (v := 0) dL_law_1122 (by decide) ?_
    exact ret0 h
def f_L_law_1075 (xs : Nat → Int32) (L : Nat) (r28 : Int32 → Mem → Option (Int32 × Mem)) (x5 : Int32) (xs0 : Int32) (M : Mem) : Option (Int32 × Mem) :=
  if bad (x5 + 2) L then none else bnd (f_L_entry xs0 (xs (Int32.toNatClampNeg (x5 + 2))) M) (fun r1 M2 => if bad (x5 + 1) L then none else if (xs (Int32.toNatClampNeg (x5 + 1))) = 0 then f_L_law_1102 xs L r28 x5 r1 0 M2 else f_L_law_1102 xs L r28 x5 r1 1 M2)
set_option maxHeartbeats 4000000 in
set_option maxRecDepth 100000 in
theorem t_L_law_1075 {G : GG} {p : Program} {l : Launch} {e : Env} {s : State} {m : MethodId} {below : List Frame} {meth : Method} {c : Code} {b L : Nat} {xs : Nat → Int32} {M' : Mem} (X : Cx G (AL s) p s m #[Value.ref b] meth c RL cL_law 9) (Y : CxH G (AL s) l s) (Z : CxL (AL s) s b L xs) (hr : meth.sig.returnType = ret) (hfl : G.2.2.2.2 = true) {ce sl : Nat} (hce : ce + 2 ≤ 601024) (hsl : sl + 12 ≤ 7293034) {r28 : Int32 → Mem → Option (Int32 × Mem)} (hr28 : ∀ (x5 : Int32) (M : Mem), r28 x5 M = some (1, M') → T G (AL s) p l e room_1 s m #[Value.ref b] below meth c 9 (ce + 2) (sl + 12) (lw_Z below #[Value.ref b] s) 28 [(0, .ref b), (1, .ref (G.2.1 (9, 0, 0))), (2, .ref (G.2.1 (10, 0, 0))), (3, .ref (G.2.1 (40, 0, 0))), (4, .ref (G.2.1 (41, 0, 0))), (5, .int x5)] [] M) {x5 : Int32} {xs0 : Int32} {M : Mem}  (h : f_L_law_1075 xs L r28 x5 xs0 M = some (1, M')) : T G (AL s) p l e room_1 s m #[Value.ref b] below meth c 9 ce sl (lw_Z below #[Value.ref b] s) 1075 [(0, .ref b), (1, .ref (G.2.1 (9, 0, 0))), (2, .ref (G.2.1 (10, 0, 0))), (3, .ref (G.2.1 (40, 0, 0))), (4, .ref (G.2.1 (41, 0, 0))), (5, .int x5)] [.int xs0, .ref (G.2.1 (9, 0, 0))] M := by
  unfold f_L_law_1075 at h
  refine r_aload_n (pc := 1075) X dL_law_1075 rfl ?_
  refine r_iload (pc := 1076) X dL_law_1076 rfl ?_
  refine r_iconst (pc := 1078) X (v := 2) dL_law_1078 (by decide) ?_
  refine r_iadd (pc := 1079) X dL_law_1079 ?_
  refine r_sld (pc := 1080) X Z dL_law_1080 h (fun h => ?_)
  refine r_aload_n (pc := 1081) X dL_law_1081 rfl ?_
  refine bndE h (fun r1 M2 h3 h => ?_)
  refine r_callHS4 (pc := 1082) X Y sy_L_entry myh_L_entry ml_L_182 ⟨Nat.le_of_ble_eq_true rfl, Nat.le_of_ble_eq_true rfl, by show _ ≤ 601024; omega, by show _ ≤ 7293034; omega⟩ (fun sz => c_L_entry Y.1 hfl  h3) (Nat.le_of_ble_eq_true rfl) dL_law_1082 ?_
  refine r_istore (pc := 1085) X (by decide) dL_law_1085 ?_
  refine r_aload_n (pc := 1087) X dL_law_1087 rfl ?_
  refine r_aload_n (pc := 1088) X dL_law_1088 rfl ?_
  refine r_iload (pc := 1089) X dL_law_1089 rfl ?_
  refine r_iconst (pc := 1091) X (v := 1) dL_law_1091 (by decide) ?_
  refine r_iadd (pc := 1092) X dL_law_1092 ?_
  refine r_sld (pc := 1093) X Z dL_law_1093 h (fun h => ?_)
  refine r_if_eq (pc := 1094) X (tgt := 1101) dL_law_1094 (by decide) h (fun h => ?_) (fun h => ?_)
  · refine r_iconst (pc := 1101) X (v := 0) dL_law_1101 (by decide) ?_
    exact T_widen (k := (ce + 1)) (n := (sl + 6)) (by omega) (by omega) (T_sub (t_L_law_1102 X Y Z hr hfl (by omega) (by omega) hr28 h) ⟨rfl, rfl, rfl, rfl, rfl, rfl, rfl, trivial⟩)
  · refine r_iconst (pc := 1097) X (v := 1) dL_law_1097 (by decide) ?_
    refine r_goto (pc := 1098) X (tgt := 1102) dL_law_1098 (by decide) ?_
    exact T_widen (k := (ce + 1)) (n := (sl + 6)) (by omega) (by omega) (T_sub (t_L_law_1102 X Y Z hr hfl (by omega) (by omega) hr28 h) ⟨rfl, rfl, rfl, rfl, rfl, rfl, rfl, trivial⟩)
def f_L_law_1060 (xs : Nat → Int32) (L : Nat) (r28 : Int32 → Mem → Option (Int32 × Mem)) (x5 : Int32) (M : Mem) : Option (Int32 × Mem) :=
  if bad (x5 + 1) L then none else if (xs (Int32.toNatClampNeg (x5 + 1))) = 0 then f_L_law_1075 xs L r28 x5 0 M else f_L_law_1075 xs L r28 x5 1 M
set_option maxHeartbeats 4000000 in
set_option maxRecDepth 100000 in
theorem t_L_law_1060 {G : GG} {p : Program} {l : Launch} {e : Env} {s : State} {m : MethodId} {below : List Frame} {meth : Method} {c : Code} {b L : Nat} {xs : Nat → Int32} {M' : Mem} (X : Cx G (AL s) p s m #[Value.ref b] meth c RL cL_law 9) (Y : CxH G (AL s) l s) (Z : CxL (AL s) s b L xs) (hr : meth.sig.returnType = ret) (hfl : G.2.2.2.2 = true) {ce sl : Nat} (hce : ce + 2 ≤ 601024) (hsl : sl + 12 ≤ 7293034) {r28 : Int32 → Mem → Option (Int32 × Mem)} (hr28 : ∀ (x5 : Int32) (M : Mem), r28 x5 M = some (1, M') → T G (AL s) p l e room_1 s m #[Value.ref b] below meth c 9 (ce + 2) (sl + 12) (lw_Z below #[Value.ref b] s) 28 [(0, .ref b), (1, .ref (G.2.1 (9, 0, 0))), (2, .ref (G.2.1 (10, 0, 0))), (3, .ref (G.2.1 (40, 0, 0))), (4, .ref (G.2.1 (41, 0, 0))), (5, .int x5)] [] M) {x5 : Int32} {M : Mem}  (h : f_L_law_1060 xs L r28 x5 M = some (1, M')) : T G (AL s) p l e room_1 s m #[Value.ref b] below meth c 9 ce sl (lw_Z below #[Value.ref b] s) 1060 [(0, .ref b), (1, .ref (G.2.1 (9, 0, 0))), (2, .ref (G.2.1 (10, 0, 0))), (3, .ref (G.2.1 (40, 0, 0))), (4, .ref (G.2.1 (41, 0, 0))), (5, .int x5)] [] M := by
  unfold f_L_law_1060 at h
  refine r_aload_n (pc := 1060) X dL_law_1060 rfl ?_
  refine r_aload_n (pc := 1061) X dL_law_1061 rfl ?_
  refine r_iload (pc := 1062) X dL_law_1062 rfl ?_
  refine r_iconst (pc := 1064) X (v := 1) dL_law_1064 (by decide) ?_
  refine r_iadd (pc := 1065) X dL_law_1065 ?_
  refine r_sld (pc := 1066) X Z dL_law_1066 h (fun h => ?_)
  refine r_if_eq (pc := 1067) X (tgt := 1074) dL_law_1067 (by decide) h (fun h => ?_) (fun h => ?_)
  · refine r_iconst (pc := 1074) X (v := 0) dL_law_1074 (by decide) ?_
    exact T_widen (k := ce) (n := sl) (by omega) (by omega) (T_sub (t_L_law_1075 X Y Z hr hfl (by omega) (by omega) hr28 h) ⟨rfl, rfl, rfl, rfl, rfl, rfl, trivial⟩)
  · refine r_iconst (pc := 1070) X (v := 1) dL_law_1070 (by decide) ?_
    refine r_goto (pc := 1071) X (tgt := 1075) dL_law_1071 (by decide) ?_
    exact T_widen (k := ce) (n := sl) (by omega) (by omega) (T_sub (t_L_law_1075 X Y Z hr hfl (by omega) (by omega) hr28 h) ⟨rfl, rfl, rfl, rfl, rfl, rfl, trivial⟩)
def f_L_law_1209 (xs : Nat → Int32) (L : Nat) (r28 : Int32 → Mem → Option (Int32 × Mem)) (x5 : Int32) (M : Mem) : Option (Int32 × Mem) :=
  f_L_law_2259 xs L r28 x5 M
set_option maxHeartbeats 4000000 in
set_option maxRecDepth 100000 in
theorem t_L_law_1209 {G : GG} {p : Program} {l : Launch} {e : Env} {s : State} {m : MethodId} {below : List Frame} {meth : Method} {c : Code} {b L : Nat} {xs : Nat → Int32} {M' : Mem} (X : Cx G (AL s) p s m #[Value.ref b] meth c RL cL_law 9) (Y : CxH G (AL s) l s) (Z : CxL (AL s) s b L xs) (hr : meth.sig.returnType = ret) (hfl : G.2.2.2.2 = true) {ce sl : Nat} (hce : ce + 2 ≤ 601024) (hsl : sl + 12 ≤ 7293034) {r28 : Int32 → Mem → Option (Int32 × Mem)} (hr28 : ∀ (x5 : Int32) (M : Mem), r28 x5 M = some (1, M') → T G (AL s) p l e room_1 s m #[Value.ref b] below meth c 9 (ce + 2) (sl + 12) (lw_Z below #[Value.ref b] s) 28 [(0, .ref b), (1, .ref (G.2.1 (9, 0, 0))), (2, .ref (G.2.1 (10, 0, 0))), (3, .ref (G.2.1 (40, 0, 0))), (4, .ref (G.2.1 (41, 0, 0))), (5, .int x5)] [] M) {x5 : Int32} {M : Mem}  (h : f_L_law_1209 xs L r28 x5 M = some (1, M')) : T G (AL s) p l e room_1 s m #[Value.ref b] below meth c 9 (ce + 2) (sl + 12) (lw_Z below #[Value.ref b] s) 1209 [(0, .ref b), (1, .ref (G.2.1 (9, 0, 0))), (2, .ref (G.2.1 (10, 0, 0))), (3, .ref (G.2.1 (40, 0, 0))), (4, .ref (G.2.1 (41, 0, 0))), (5, .int x5)] [] M := by
  unfold f_L_law_1209 at h
  refine r_goto (pc := 1209) X (tgt := 2259) dL_law_1209 (by decide) ?_
  exact T_widen (k := (ce + 2)) (n := (sl + 12)) (by omega) (by omega) (T_sub (t_L_law_2259 X Y Z hr hfl (by omega) (by omega) hr28 h) ⟨rfl, rfl, rfl, rfl, rfl, rfl, trivial⟩)
def f_L_law_1144 (xs : Nat → Int32) (L : Nat) (r28 : Int32 → Mem → Option (Int32 × Mem)) (x5 : Int32) (M : Mem) : Option (Int32 × Mem) :=
  if bad (x5 + 1) L then none else if bad (x5 + 2) L then none else bnd (f_L_channel (xs (Int32.toNatClampNeg (x5 + 1))) (xs (Int32.toNatClampNeg (x5 + 2))) M) (fun r1 M2 => if bad (x5 + 1) L then none else if bad (x5 + 2) L then none else bnd (f_X12_channel (xs (Int32.toNatClampNeg (x5 + 1))) (xs (Int32.toNatClampNeg (x5 + 2))) M2) (fun r4 M5 => bnd (f_X12_thrown  M5) (fun r7 M8 => if r7 = r1 then if r1 = 0 then if bad 0 1 then none else if (lg_cmp (M8.2.1 (40, 0, 0) (Int32.toNatClampNeg 0)) (Int32.toInt64 r4)) = 0 then f_L_law_1209 xs L r28 x5 M8 else some (0, M8) else f_L_law_1209 xs L r28 x5 M8 else some (0, M8))))
set_option maxHeartbeats 4000000 in
set_option maxRecDepth 100000 in
theorem t_L_law_1144 {G : GG} {p : Program} {l : Launch} {e : Env} {s : State} {m : MethodId} {below : List Frame} {meth : Method} {c : Code} {b L : Nat} {xs : Nat → Int32} {M' : Mem} (X : Cx G (AL s) p s m #[Value.ref b] meth c RL cL_law 9) (Y : CxH G (AL s) l s) (Z : CxL (AL s) s b L xs) (hr : meth.sig.returnType = ret) (hfl : G.2.2.2.2 = true) {ce sl : Nat} (hce : ce + 2 ≤ 601024) (hsl : sl + 12 ≤ 7293034) {r28 : Int32 → Mem → Option (Int32 × Mem)} (hr28 : ∀ (x5 : Int32) (M : Mem), r28 x5 M = some (1, M') → T G (AL s) p l e room_1 s m #[Value.ref b] below meth c 9 (ce + 2) (sl + 12) (lw_Z below #[Value.ref b] s) 28 [(0, .ref b), (1, .ref (G.2.1 (9, 0, 0))), (2, .ref (G.2.1 (10, 0, 0))), (3, .ref (G.2.1 (40, 0, 0))), (4, .ref (G.2.1 (41, 0, 0))), (5, .int x5)] [] M) {x5 : Int32} {M : Mem}  (h : f_L_law_1144 xs L r28 x5 M = some (1, M')) : T G (AL s) p l e room_1 s m #[Value.ref b] below meth c 9 ce sl (lw_Z below #[Value.ref b] s) 1144 [(0, .ref b), (1, .ref (G.2.1 (9, 0, 0))), (2, .ref (G.2.1 (10, 0, 0))), (3, .ref (G.2.1 (40, 0, 0))), (4, .ref (G.2.1 (41, 0, 0))), (5, .int x5)] [] M := by
  unfold f_L_law_1144 at h
  refine r_aload_n (pc := 1144) X dL_law_1144 rfl ?_
  refine r_aload_n (pc := 1145) X dL_law_1145 rfl ?_
  refine r_iload (pc := 1146) X dL_law_1146 rfl ?_
  refine r_iconst (pc := 1148) X (v := 1) dL_law_1148 (by decide) ?_
  refine r_iadd (pc := 1149) X dL_law_1149 ?_
  refine r_sld (pc := 1150) X Z dL_law_1150 h (fun h => ?_)
  refine r_aload_n (pc := 1151) X dL_law_1151 rfl ?_
  refine r_iload (pc := 1152) X dL_law_1152 rfl ?_
  refine r_iconst (pc := 1154) X (v := 2) dL_law_1154 (by decide) ?_
  refine r_iadd (pc := 1155) X dL_law_1155 ?_
  refine r_sld (pc := 1156) X Z dL_law_1156 h (fun h => ?_)
  refine r_aload_n (pc := 1157) X dL_law_1157 rfl ?_
  refine bndE h (fun r1 M2 h3 h => ?_)
  refine r_callHS4 (pc := 1158) X Y sy_L_channel myh_L_channel ml_L_185 ⟨Nat.le_of_ble_eq_true rfl, Nat.le_of_ble_eq_true rfl, by show _ ≤ 601024; omega, by show _ ≤ 7293034; omega⟩ (fun sz => c_L_channel Y.1 hfl  h3) (Nat.le_of_ble_eq_true rfl) dL_law_1158 ?_
  refine r_istore (pc := 1161) X (by decide) dL_law_1161 ?_
  refine r_aload_n (pc := 1163) X dL_law_1163 rfl ?_
  refine r_aload_n (pc := 1164) X dL_law_1164 rfl ?_
  refine r_iload (pc := 1165) X dL_law_1165 rfl ?_
  refine r_iconst (pc := 1167) X (v := 1) dL_law_1167 (by decide) ?_
  refine r_iadd (pc := 1168) X dL_law_1168 ?_
  refine r_sld (pc := 1169) X Z dL_law_1169 h (fun h => ?_)
  refine r_aload_n (pc := 1170) X dL_law_1170 rfl ?_
  refine r_iload (pc := 1171) X dL_law_1171 rfl ?_
  refine r_iconst (pc := 1173) X (v := 2) dL_law_1173 (by decide) ?_
  refine r_iadd (pc := 1174) X dL_law_1174 ?_
  refine r_sld (pc := 1175) X Z dL_law_1175 h (fun h => ?_)
  refine bndE h (fun r4 M5 h6 h => ?_)
  refine r_callVi2 (pc := 1176) X ⟨(ltb rfl), (ltb rfl)⟩ rfl vy_X12_channel my_X12_channel ml_L_187 ⟨Nat.le_of_ble_eq_true rfl, Nat.le_of_ble_eq_true rfl, by show _ ≤ 601024; omega, by show _ ≤ 7293034; omega⟩ (c_X12_channel  h6) (Nat.le_of_ble_eq_true rfl) dL_law_1176 ?_
  refine r_istore (pc := 1179) X (by decide) dL_law_1179 ?_
  refine r_aload_n (pc := 1181) X dL_law_1181 rfl ?_
  refine bndE h (fun r7 M8 h9 h => ?_)
  refine r_callVi0 (pc := 1182) X ⟨(ltb rfl), (ltb rfl)⟩ rfl vy_X12_thrown my_X12_thrown ml_L_124 ⟨Nat.le_of_ble_eq_true rfl, Nat.le_of_ble_eq_true rfl, by show _ ≤ 601024; omega, by show _ ≤ 7293034; omega⟩ (c_X12_thrown  h9) (Nat.le_of_ble_eq_true rfl) dL_law_1182 ?_
  refine r_iload (pc := 1185) X dL_law_1185 rfl ?_
  refine r_icmp_eq (pc := 1187) X (tgt := 1192) dL_law_1187 (by decide) h (fun h => ?_) (fun h => ?_)
  · refine r_iload (pc := 1192) X dL_law_1192 rfl ?_
    refine r_if_ne (pc := 1194) X (tgt := 1209) dL_law_1194 (by decide) h (fun h => ?_) (fun h => ?_)
    · exact T_widen (k := (ce + 2)) (n := (sl + 12)) (by omega) (by omega) (T_sub (t_L_law_1209 X Y Z hr hfl (by omega) (by omega) hr28 h) ⟨rfl, rfl, rfl, rfl, rfl, rfl, trivial⟩)
    · refine r_aload_n (pc := 1197) X dL_law_1197 rfl ?_
      refine r_iconst (pc := 1198) X (v := 0) dL_law_1198 (by decide) ?_
      refine r_lald (pc := 1199) X (n := 1) ⟨(ltb rfl), (ltb rfl), hfl⟩ rfl (nlt rfl) dL_law_1199 h (fun h => ?_)
      refine r_iload (pc := 1200) X dL_law_1200 rfl ?_
      refine r_i2l (pc := 1202) X dL_law_1202 ?_
      refine r_lcmp (pc := 1203) X dL_law_1203 ?_
      refine r_if_eq (pc := 1204) X (tgt := 1209) dL_law_1204 (by decide) h (fun h => ?_) (fun h => ?_)
      · exact T_widen (k := (ce + 2)) (n := (sl + 12)) (by omega) (by omega) (T_sub (t_L_law_1209 X Y Z hr hfl (by omega) (by omega) hr28 h) ⟨rfl, rfl, rfl, rfl, rfl, rfl, trivial⟩)
      · refine r_iconst (pc := 1207) X (v := 0) dL_law_1207 (by decide) ?_
        exact ret0 h
  · refine r_iconst (pc := 1190) X (v := 0) dL_law_1190 (by decide) ?_
    exact ret0 h
def f_L_law_1264 (xs : Nat → Int32) (L : Nat) (r28 : Int32 → Mem → Option (Int32 × Mem)) (x5 : Int32) (M : Mem) : Option (Int32 × Mem) :=
  f_L_law_2259 xs L r28 x5 M
set_option maxHeartbeats 4000000 in
set_option maxRecDepth 100000 in
theorem t_L_law_1264 {G : GG} {p : Program} {l : Launch} {e : Env} {s : State} {m : MethodId} {below : List Frame} {meth : Method} {c : Code} {b L : Nat} {xs : Nat → Int32} {M' : Mem} (X : Cx G (AL s) p s m #[Value.ref b] meth c RL cL_law 9) (Y : CxH G (AL s) l s) (Z : CxL (AL s) s b L xs) (hr : meth.sig.returnType = ret) (hfl : G.2.2.2.2 = true) {ce sl : Nat} (hce : ce + 2 ≤ 601024) (hsl : sl + 12 ≤ 7293034) {r28 : Int32 → Mem → Option (Int32 × Mem)} (hr28 : ∀ (x5 : Int32) (M : Mem), r28 x5 M = some (1, M') → T G (AL s) p l e room_1 s m #[Value.ref b] below meth c 9 (ce + 2) (sl + 12) (lw_Z below #[Value.ref b] s) 28 [(0, .ref b), (1, .ref (G.2.1 (9, 0, 0))), (2, .ref (G.2.1 (10, 0, 0))), (3, .ref (G.2.1 (40, 0, 0))), (4, .ref (G.2.1 (41, 0, 0))), (5, .int x5)] [] M) {x5 : Int32} {M : Mem}  (h : f_L_law_1264 xs L r28 x5 M = some (1, M')) : T G (AL s) p l e room_1 s m #[Value.ref b] below meth c 9 (ce + 1) (sl + 6) (lw_Z below #[Value.ref b] s) 1264 [(0, .ref b), (1, .ref (G.2.1 (9, 0, 0))), (2, .ref (G.2.1 (10, 0, 0))), (3, .ref (G.2.1 (40, 0, 0))), (4, .ref (G.2.1 (41, 0, 0))), (5, .int x5)] [] M := by
  unfold f_L_law_1264 at h
  refine r_goto (pc := 1264) X (tgt := 2259) dL_law_1264 (by decide) ?_
  exact T_widen (k := (ce + 2)) (n := (sl + 12)) (by omega) (by omega) (T_sub (t_L_law_2259 X Y Z hr hfl (by omega) (by omega) hr28 h) ⟨rfl, rfl, rfl, rfl, rfl, rfl, trivial⟩)
def f_L_law_1212 (xs : Nat → Int32) (L : Nat) (r28 : Int32 → Mem → Option (Int32 × Mem)) (x5 : Int32) (M : Mem) : Option (Int32 × Mem) :=
  if bad (x5 + 1) L then none else bnd (f_L_sum (xs (Int32.toNatClampNeg (x5 + 1))) M) (fun r1 M2 => if bad (x5 + 1) L then none else bnd (f_X12_sum (xs (Int32.toNatClampNeg (x5 + 1))) M2) (fun r4 M5 => bnd (f_X12_thrown  M5) (fun r7 M8 => if r7 = r1 then if r1 = 0 then if bad 0 1 then none else if (lg_cmp (M8.2.1 (40, 0, 0) (Int32.toNatClampNeg 0)) r4) = 0 then f_L_law_1264 xs L r28 x5 M8 else some (0, M8) else f_L_law_1264 xs L r28 x5 M8 else some (0, M8))))
set_option maxHeartbeats 4000000 in
set_option maxRecDepth 100000 in
theorem t_L_law_1212 {G : GG} {p : Program} {l : Launch} {e : Env} {s : State} {m : MethodId} {below : List Frame} {meth : Method} {c : Code} {b L : Nat} {xs : Nat → Int32} {M' : Mem} (X : Cx G (AL s) p s m #[Value.ref b] meth c RL cL_law 9) (Y : CxH G (AL s) l s) (Z : CxL (AL s) s b L xs) (hr : meth.sig.returnType = ret) (hfl : G.2.2.2.2 = true) {ce sl : Nat} (hce : ce + 2 ≤ 601024) (hsl : sl + 12 ≤ 7293034) {r28 : Int32 → Mem → Option (Int32 × Mem)} (hr28 : ∀ (x5 : Int32) (M : Mem), r28 x5 M = some (1, M') → T G (AL s) p l e room_1 s m #[Value.ref b] below meth c 9 (ce + 2) (sl + 12) (lw_Z below #[Value.ref b] s) 28 [(0, .ref b), (1, .ref (G.2.1 (9, 0, 0))), (2, .ref (G.2.1 (10, 0, 0))), (3, .ref (G.2.1 (40, 0, 0))), (4, .ref (G.2.1 (41, 0, 0))), (5, .int x5)] [] M) {x5 : Int32} {M : Mem}  (h : f_L_law_1212 xs L r28 x5 M = some (1, M')) : T G (AL s) p l e room_1 s m #[Value.ref b] below meth c 9 ce sl (lw_Z below #[Value.ref b] s) 1212 [(0, .ref b), (1, .ref (G.2.1 (9, 0, 0))), (2, .ref (G.2.1 (10, 0, 0))), (3, .ref (G.2.1 (40, 0, 0))), (4, .ref (G.2.1 (41, 0, 0))), (5, .int x5)] [] M := by
  unfold f_L_law_1212 at h
  refine r_aload_n (pc := 1212) X dL_law_1212 rfl ?_
  refine r_aload_n (pc := 1213) X dL_law_1213 rfl ?_
  refine r_iload (pc := 1214) X dL_law_1214 rfl ?_
  refine r_iconst (pc := 1216) X (v := 1) dL_law_1216 (by decide) ?_
  refine r_iadd (pc := 1217) X dL_law_1217 ?_
  refine r_sld (pc := 1218) X Z dL_law_1218 h (fun h => ?_)
  refine r_aload_n (pc := 1219) X dL_law_1219 rfl ?_
  refine bndE h (fun r1 M2 h3 h => ?_)
  refine r_callHS3 (pc := 1220) X Y sy_L_sum myh_L_sum ml_L_188 ⟨Nat.le_of_ble_eq_true rfl, Nat.le_of_ble_eq_true rfl, by show _ ≤ 601024; omega, by show _ ≤ 7293034; omega⟩ (fun sz => c_L_sum Y.1 hfl  h3) (Nat.le_of_ble_eq_true rfl) dL_law_1220 ?_
  refine r_istore (pc := 1223) X (by decide) dL_law_1223 ?_
  refine r_aload_n (pc := 1225) X dL_law_1225 rfl ?_
  refine r_aload_n (pc := 1226) X dL_law_1226 rfl ?_
  refine r_iload (pc := 1227) X dL_law_1227 rfl ?_
  refine r_iconst (pc := 1229) X (v := 1) dL_law_1229 (by decide) ?_
  refine r_iadd (pc := 1230) X dL_law_1230 ?_
  refine r_sld (pc := 1231) X Z dL_law_1231 h (fun h => ?_)
  refine bndE h (fun r4 M5 h6 h => ?_)
  refine r_callVl1 (pc := 1232) X ⟨(ltb rfl), (ltb rfl)⟩ rfl vy_X12_sum my_X12_sum ml_L_190 ⟨Nat.le_of_ble_eq_true rfl, Nat.le_of_ble_eq_true rfl, by show _ ≤ 601024; omega, by show _ ≤ 7293034; omega⟩ (c_X12_sum  h6) (Nat.le_of_ble_eq_true rfl) dL_law_1232 ?_
  refine r_lstore (pc := 1235) X (by decide) dL_law_1235 ?_
  refine r_aload_n (pc := 1237) X dL_law_1237 rfl ?_
  refine bndE h (fun r7 M8 h9 h => ?_)
  refine r_callVi0 (pc := 1238) X ⟨(ltb rfl), (ltb rfl)⟩ rfl vy_X12_thrown my_X12_thrown ml_L_124 ⟨Nat.le_of_ble_eq_true rfl, Nat.le_of_ble_eq_true rfl, by show _ ≤ 601024; omega, by show _ ≤ 7293034; omega⟩ (c_X12_thrown  h9) (Nat.le_of_ble_eq_true rfl) dL_law_1238 ?_
  refine r_iload (pc := 1241) X dL_law_1241 rfl ?_
  refine r_icmp_eq (pc := 1243) X (tgt := 1248) dL_law_1243 (by decide) h (fun h => ?_) (fun h => ?_)
  · refine r_iload (pc := 1248) X dL_law_1248 rfl ?_
    refine r_if_ne (pc := 1250) X (tgt := 1264) dL_law_1250 (by decide) h (fun h => ?_) (fun h => ?_)
    · exact T_widen (k := (ce + 1)) (n := (sl + 6)) (by omega) (by omega) (T_sub (t_L_law_1264 X Y Z hr hfl (by omega) (by omega) hr28 h) ⟨rfl, rfl, rfl, rfl, rfl, rfl, trivial⟩)
    · refine r_aload_n (pc := 1253) X dL_law_1253 rfl ?_
      refine r_iconst (pc := 1254) X (v := 0) dL_law_1254 (by decide) ?_
      refine r_lald (pc := 1255) X (n := 1) ⟨(ltb rfl), (ltb rfl), hfl⟩ rfl (nlt rfl) dL_law_1255 h (fun h => ?_)
      refine r_lload (pc := 1256) X dL_law_1256 rfl ?_
      refine r_lcmp (pc := 1258) X dL_law_1258 ?_
      refine r_if_eq (pc := 1259) X (tgt := 1264) dL_law_1259 (by decide) h (fun h => ?_) (fun h => ?_)
      · exact T_widen (k := (ce + 1)) (n := (sl + 6)) (by omega) (by omega) (T_sub (t_L_law_1264 X Y Z hr hfl (by omega) (by omega) hr28 h) ⟨rfl, rfl, rfl, rfl, rfl, rfl, trivial⟩)
      · refine r_iconst (pc := 1262) X (v := 0) dL_law_1262 (by decide) ?_
        exact ret0 h
  · refine r_iconst (pc := 1246) X (v := 0) dL_law_1246 (by decide) ?_
    exact ret0 h
def f_L_law_1341 (xs : Nat → Int32) (L : Nat) (r28 : Int32 → Mem → Option (Int32 × Mem)) (x5 : Int32) (M : Mem) : Option (Int32 × Mem) :=
  f_L_law_2259 xs L r28 x5 M
set_option maxHeartbeats 4000000 in
set_option maxRecDepth 100000 in
theorem t_L_law_1341 {G : GG} {p : Program} {l : Launch} {e : Env} {s : State} {m : MethodId} {below : List Frame} {meth : Method} {c : Code} {b L : Nat} {xs : Nat → Int32} {M' : Mem} (X : Cx G (AL s) p s m #[Value.ref b] meth c RL cL_law 9) (Y : CxH G (AL s) l s) (Z : CxL (AL s) s b L xs) (hr : meth.sig.returnType = ret) (hfl : G.2.2.2.2 = true) {ce sl : Nat} (hce : ce + 2 ≤ 601024) (hsl : sl + 12 ≤ 7293034) {r28 : Int32 → Mem → Option (Int32 × Mem)} (hr28 : ∀ (x5 : Int32) (M : Mem), r28 x5 M = some (1, M') → T G (AL s) p l e room_1 s m #[Value.ref b] below meth c 9 (ce + 2) (sl + 12) (lw_Z below #[Value.ref b] s) 28 [(0, .ref b), (1, .ref (G.2.1 (9, 0, 0))), (2, .ref (G.2.1 (10, 0, 0))), (3, .ref (G.2.1 (40, 0, 0))), (4, .ref (G.2.1 (41, 0, 0))), (5, .int x5)] [] M) {x5 : Int32} {M : Mem}  (h : f_L_law_1341 xs L r28 x5 M = some (1, M')) : T G (AL s) p l e room_1 s m #[Value.ref b] below meth c 9 (ce + 2) (sl + 12) (lw_Z below #[Value.ref b] s) 1341 [(0, .ref b), (1, .ref (G.2.1 (9, 0, 0))), (2, .ref (G.2.1 (10, 0, 0))), (3, .ref (G.2.1 (40, 0, 0))), (4, .ref (G.2.1 (41, 0, 0))), (5, .int x5)] [] M := by
  unfold f_L_law_1341 at h
  refine r_goto (pc := 1341) X (tgt := 2259) dL_law_1341 (by decide) ?_
  exact T_widen (k := (ce + 2)) (n := (sl + 12)) (by omega) (by omega) (T_sub (t_L_law_2259 X Y Z hr hfl (by omega) (by omega) hr28 h) ⟨rfl, rfl, rfl, rfl, rfl, rfl, trivial⟩)
def f_L_law_1267 (xs : Nat → Int32) (L : Nat) (r28 : Int32 → Mem → Option (Int32 × Mem)) (x5 : Int32) (M : Mem) : Option (Int32 × Mem) :=
  if bad (x5 + 1) L then none else bnd (f_L_mean (xs (Int32.toNatClampNeg (x5 + 1))) M) (fun r1 M2 => if bad (x5 + 1) L then none else bnd (f_X12_mean (xs (Int32.toNatClampNeg (x5 + 1))) M2) (fun r4 M5 => bnd (f_X12_thrown  M5) (fun r7 M8 => if r7 = r1 then if r1 = 0 then if bad 0 1 then none else if (Op.cmpValue (FP.dcmp (M8.2.2 (41, 0, 0) (Int32.toNatClampNeg 0)) r4) CmpOp.l) = 0 then f_L_law_1341 xs L r28 x5 M8 else if bad 0 1 then none else if bad 0 1 then none else if (Op.cmpValue (FP.dcmp (M8.2.2 (41, 0, 0) (Int32.toNatClampNeg 0)) (M8.2.2 (41, 0, 0) (Int32.toNatClampNeg 0))) CmpOp.l) = 0 then some (0, M8) else if (Op.cmpValue (FP.dcmp r4 r4) CmpOp.l) = 0 then some (0, M8) else f_L_law_1341 xs L r28 x5 M8 else f_L_law_1341 xs L r28 x5 M8 else some (0, M8))))
set_option maxHeartbeats 4000000 in
set_option maxRecDepth 100000 in
theorem t_L_law_1267 {G : GG} {p : Program} {l : Launch} {e : Env} {s : State} {m : MethodId} {below : List Frame} {meth : Method} {c : Code} {b L : Nat} {xs : Nat → Int32} {M' : Mem} (X : Cx G (AL s) p s m #[Value.ref b] meth c RL cL_law 9) (Y : CxH G (AL s) l s) (Z : CxL (AL s) s b L xs) (hr : meth.sig.returnType = ret) (hfl : G.2.2.2.2 = true) {ce sl : Nat} (hce : ce + 2 ≤ 601024) (hsl : sl + 12 ≤ 7293034) {r28 : Int32 → Mem → Option (Int32 × Mem)} (hr28 : ∀ (x5 : Int32) (M : Mem), r28 x5 M = some (1, M') → T G (AL s) p l e room_1 s m #[Value.ref b] below meth c 9 (ce + 2) (sl + 12) (lw_Z below #[Value.ref b] s) 28 [(0, .ref b), (1, .ref (G.2.1 (9, 0, 0))), (2, .ref (G.2.1 (10, 0, 0))), (3, .ref (G.2.1 (40, 0, 0))), (4, .ref (G.2.1 (41, 0, 0))), (5, .int x5)] [] M) {x5 : Int32} {M : Mem}  (h : f_L_law_1267 xs L r28 x5 M = some (1, M')) : T G (AL s) p l e room_1 s m #[Value.ref b] below meth c 9 ce sl (lw_Z below #[Value.ref b] s) 1267 [(0, .ref b), (1, .ref (G.2.1 (9, 0, 0))), (2, .ref (G.2.1 (10, 0, 0))), (3, .ref (G.2.1 (40, 0, 0))), (4, .ref (G.2.1 (41, 0, 0))), (5, .int x5)] [] M := by
  unfold f_L_law_1267 at h
  refine r_aload_n (pc := 1267) X dL_law_1267 rfl ?_
  refine r_aload_n (pc := 1268) X dL_law_1268 rfl ?_
  refine r_iload (pc := 1269) X dL_law_1269 rfl ?_
  refine r_iconst (pc := 1271) X (v := 1) dL_law_1271 (by decide) ?_
  refine r_iadd (pc := 1272) X dL_law_1272 ?_
  refine r_sld (pc := 1273) X Z dL_law_1273 h (fun h => ?_)
  refine r_aload (pc := 1274) X dL_law_1274 rfl ?_
  refine bndE h (fun r1 M2 h3 h => ?_)
  refine r_callHS3 (pc := 1276) X Y sy_L_mean myh_L_mean ml_L_191 ⟨Nat.le_of_ble_eq_true rfl, Nat.le_of_ble_eq_true rfl, by show _ ≤ 601024; omega, by show _ ≤ 7293034; omega⟩ (fun sz => c_L_mean Y.1 hfl  h3) (Nat.le_of_ble_eq_true rfl) dL_law_1276 ?_
  refine r_istore (pc := 1279) X (by decide) dL_law_1279 ?_
  refine r_aload_n (pc := 1281) X dL_law_1281 rfl ?_
  refine r_aload_n (pc := 1282) X dL_law_1282 rfl ?_
  refine r_iload (pc := 1283) X dL_law_1283 rfl ?_
  refine r_iconst (pc := 1285) X (v := 1) dL_law_1285 (by decide) ?_
  refine r_iadd (pc := 1286) X dL_law_1286 ?_
  refine r_sld (pc := 1287) X Z dL_law_1287 h (fun h => ?_)
  refine bndE h (fun r4 M5 h6 h => ?_)
  refine r_callVd1 (pc := 1288) X ⟨(ltb rfl), (ltb rfl)⟩ rfl vy_X12_mean my_X12_mean ml_L_194 ⟨Nat.le_of_ble_eq_true rfl, Nat.le_of_ble_eq_true rfl, by show _ ≤ 601024; omega, by show _ ≤ 7293034; omega⟩ (c_X12_mean  h6) (Nat.le_of_ble_eq_true rfl) dL_law_1288 ?_
  refine r_dstore (pc := 1291) X (by decide) dL_law_1291 ?_
  refine r_aload_n (pc := 1293) X dL_law_1293 rfl ?_
  refine bndE h (fun r7 M8 h9 h => ?_)
  refine r_callVi0 (pc := 1294) X ⟨(ltb rfl), (ltb rfl)⟩ rfl vy_X12_thrown my_X12_thrown ml_L_124 ⟨Nat.le_of_ble_eq_true rfl, Nat.le_of_ble_eq_true rfl, by show _ ≤ 601024; omega, by show _ ≤ 7293034; omega⟩ (c_X12_thrown  h9) (Nat.le_of_ble_eq_true rfl) dL_law_1294 ?_
  refine r_iload (pc := 1297) X dL_law_1297 rfl ?_
  refine r_icmp_eq (pc := 1299) X (tgt := 1304) dL_law_1299 (by decide) h (fun h => ?_) (fun h => ?_)
  · refine r_iload (pc := 1304) X dL_law_1304 rfl ?_
    refine r_if_ne (pc := 1306) X (tgt := 1341) dL_law_1306 (by decide) h (fun h => ?_) (fun h => ?_)
    · exact T_widen (k := (ce + 2)) (n := (sl + 12)) (by omega) (by omega) (T_sub (t_L_law_1341 X Y Z hr hfl (by omega) (by omega) hr28 h) ⟨rfl, rfl, rfl, rfl, rfl, rfl, trivial⟩)
    · refine r_aload (pc := 1309) X dL_law_1309 rfl ?_
      refine r_iconst (pc := 1311) X (v := 0) dL_law_1311 (by decide) ?_
      refine r_dald (pc := 1312) X (n := 1) ⟨(ltb rfl), (ltb rfl), hfl⟩ rfl (nlt rfl) dL_law_1312 h (fun h => ?_)
      refine r_dload (pc := 1313) X dL_law_1313 rfl ?_
      refine r_dcmp (pc := 1315) X dL_law_1315 ?_
      refine r_if_eq (pc := 1316) X (tgt := 1341) dL_law_1316 (by decide) h (fun h => ?_) (fun h => ?_)
      · exact T_widen (k := (ce + 2)) (n := (sl + 12)) (by omega) (by omega) (T_sub (t_L_law_1341 X Y Z hr hfl (by omega) (by omega) hr28 h) ⟨rfl, rfl, rfl, rfl, rfl, rfl, trivial⟩)
      · refine r_aload (pc := 1319) X dL_law_1319 rfl ?_
        refine r_iconst (pc := 1321) X (v := 0) dL_law_1321 (by decide) ?_
        refine r_dald (pc := 1322) X (n := 1) ⟨(ltb rfl), (ltb rfl), hfl⟩ rfl (nlt rfl) dL_law_1322 h (fun h => ?_)
        refine r_aload (pc := 1323) X dL_law_1323 rfl ?_
        refine r_iconst (pc := 1325) X (v := 0) dL_law_1325 (by decide) ?_
        refine r_dald (pc := 1326) X (n := 1) ⟨(ltb rfl), (ltb rfl), hfl⟩ rfl (nlt rfl) dL_law_1326 h (fun h => ?_)
        refine r_dcmp (pc := 1327) X dL_law_1327 ?_
        refine r_if_eq (pc := 1328) X (tgt := 1339) dL_law_1328 (by decide) h (fun h => ?_) (fun h => ?_)
        · refine r_iconst (pc := 1339) X (v := 0) dL_law_1339 (by decide) ?_
          exact ret0 h
        · refine r_dload (pc := 1331) X dL_law_1331 rfl ?_
          refine r_dload (pc := 1333) X dL_law_1333 rfl ?_
          refine r_dcmp (pc := 1335) X dL_law_1335 ?_
          refine r_if_ne (pc := 1336) X (tgt := 1341) dL_law_1336 (by decide) h (fun h => ?_) (fun h => ?_)
          · exact T_widen (k := (ce + 2)) (n := (sl + 12)) (by omega) (by omega) (T_sub (t_L_law_1341 X Y Z hr hfl (by omega) (by omega) hr28 h) ⟨rfl, rfl, rfl, rfl, rfl, rfl, trivial⟩)
          · refine r_iconst (pc := 1339) X (v := 0) dL_law_1339 (by decide) ?_
            exact ret0 h
  · refine r_iconst (pc := 1302) X (v := 0) dL_law_1302 (by decide) ?_
    exact ret0 h
def f_L_law_1409 (xs : Nat → Int32) (L : Nat) (r28 : Int32 → Mem → Option (Int32 × Mem)) (x5 : Int32) (M : Mem) : Option (Int32 × Mem) :=
  f_L_law_2259 xs L r28 x5 M
set_option maxHeartbeats 4000000 in
set_option maxRecDepth 100000 in
theorem t_L_law_1409 {G : GG} {p : Program} {l : Launch} {e : Env} {s : State} {m : MethodId} {below : List Frame} {meth : Method} {c : Code} {b L : Nat} {xs : Nat → Int32} {M' : Mem} (X : Cx G (AL s) p s m #[Value.ref b] meth c RL cL_law 9) (Y : CxH G (AL s) l s) (Z : CxL (AL s) s b L xs) (hr : meth.sig.returnType = ret) (hfl : G.2.2.2.2 = true) {ce sl : Nat} (hce : ce + 2 ≤ 601024) (hsl : sl + 12 ≤ 7293034) {r28 : Int32 → Mem → Option (Int32 × Mem)} (hr28 : ∀ (x5 : Int32) (M : Mem), r28 x5 M = some (1, M') → T G (AL s) p l e room_1 s m #[Value.ref b] below meth c 9 (ce + 2) (sl + 12) (lw_Z below #[Value.ref b] s) 28 [(0, .ref b), (1, .ref (G.2.1 (9, 0, 0))), (2, .ref (G.2.1 (10, 0, 0))), (3, .ref (G.2.1 (40, 0, 0))), (4, .ref (G.2.1 (41, 0, 0))), (5, .int x5)] [] M) {x5 : Int32} {M : Mem}  (h : f_L_law_1409 xs L r28 x5 M = some (1, M')) : T G (AL s) p l e room_1 s m #[Value.ref b] below meth c 9 (ce + 2) (sl + 12) (lw_Z below #[Value.ref b] s) 1409 [(0, .ref b), (1, .ref (G.2.1 (9, 0, 0))), (2, .ref (G.2.1 (10, 0, 0))), (3, .ref (G.2.1 (40, 0, 0))), (4, .ref (G.2.1 (41, 0, 0))), (5, .int x5)] [] M := by
  unfold f_L_law_1409 at h
  refine r_goto (pc := 1409) X (tgt := 2259) dL_law_1409 (by decide) ?_
  exact T_widen (k := (ce + 2)) (n := (sl + 12)) (by omega) (by omega) (T_sub (t_L_law_2259 X Y Z hr hfl (by omega) (by omega) hr28 h) ⟨rfl, rfl, rfl, rfl, rfl, rfl, trivial⟩)
def f_L_law_1344 (xs : Nat → Int32) (L : Nat) (r28 : Int32 → Mem → Option (Int32 × Mem)) (x5 : Int32) (M : Mem) : Option (Int32 × Mem) :=
  if bad (x5 + 1) L then none else if bad (x5 + 2) L then none else bnd (f_L_trigger (xs (Int32.toNatClampNeg (x5 + 1))) (xs (Int32.toNatClampNeg (x5 + 2))) M) (fun r1 M2 => if bad (x5 + 1) L then none else if bad (x5 + 2) L then none else bnd (f_X12_trigger (xs (Int32.toNatClampNeg (x5 + 1))) (xs (Int32.toNatClampNeg (x5 + 2))) M2) (fun r4 M5 => bnd (f_X12_thrown  M5) (fun r7 M8 => if r7 = r1 then if r1 = 0 then if bad 0 1 then none else if (lg_cmp (M8.2.1 (40, 0, 0) (Int32.toNatClampNeg 0)) (Int32.toInt64 r4)) = 0 then f_L_law_1409 xs L r28 x5 M8 else some (0, M8) else f_L_law_1409 xs L r28 x5 M8 else some (0, M8))))
set_option maxHeartbeats 4000000 in
set_option maxRecDepth 100000 in
theorem t_L_law_1344 {G : GG} {p : Program} {l : Launch} {e : Env} {s : State} {m : MethodId} {below : List Frame} {meth : Method} {c : Code} {b L : Nat} {xs : Nat → Int32} {M' : Mem} (X : Cx G (AL s) p s m #[Value.ref b] meth c RL cL_law 9) (Y : CxH G (AL s) l s) (Z : CxL (AL s) s b L xs) (hr : meth.sig.returnType = ret) (hfl : G.2.2.2.2 = true) {ce sl : Nat} (hce : ce + 2 ≤ 601024) (hsl : sl + 12 ≤ 7293034) {r28 : Int32 → Mem → Option (Int32 × Mem)} (hr28 : ∀ (x5 : Int32) (M : Mem), r28 x5 M = some (1, M') → T G (AL s) p l e room_1 s m #[Value.ref b] below meth c 9 (ce + 2) (sl + 12) (lw_Z below #[Value.ref b] s) 28 [(0, .ref b), (1, .ref (G.2.1 (9, 0, 0))), (2, .ref (G.2.1 (10, 0, 0))), (3, .ref (G.2.1 (40, 0, 0))), (4, .ref (G.2.1 (41, 0, 0))), (5, .int x5)] [] M) {x5 : Int32} {M : Mem}  (h : f_L_law_1344 xs L r28 x5 M = some (1, M')) : T G (AL s) p l e room_1 s m #[Value.ref b] below meth c 9 ce sl (lw_Z below #[Value.ref b] s) 1344 [(0, .ref b), (1, .ref (G.2.1 (9, 0, 0))), (2, .ref (G.2.1 (10, 0, 0))), (3, .ref (G.2.1 (40, 0, 0))), (4, .ref (G.2.1 (41, 0, 0))), (5, .int x5)] [] M := by
  unfold f_L_law_1344 at h
  refine r_aload_n (pc := 1344) X dL_law_1344 rfl ?_
  refine r_aload_n (pc := 1345) X dL_law_1345 rfl ?_
  refine r_iload (pc := 1346) X dL_law_1346 rfl ?_
  refine r_iconst (pc := 1348) X (v := 1) dL_law_1348 (by decide) ?_
  refine r_iadd (pc := 1349) X dL_law_1349 ?_
  refine r_sld (pc := 1350) X Z dL_law_1350 h (fun h => ?_)
  refine r_aload_n (pc := 1351) X dL_law_1351 rfl ?_
  refine r_iload (pc := 1352) X dL_law_1352 rfl ?_
  refine r_iconst (pc := 1354) X (v := 2) dL_law_1354 (by decide) ?_
  refine r_iadd (pc := 1355) X dL_law_1355 ?_
  refine r_sld (pc := 1356) X Z dL_law_1356 h (fun h => ?_)
  refine r_aload_n (pc := 1357) X dL_law_1357 rfl ?_
  refine bndE h (fun r1 M2 h3 h => ?_)
  refine r_callHS4 (pc := 1358) X Y sy_L_trigger myh_L_trigger ml_L_195 ⟨Nat.le_of_ble_eq_true rfl, Nat.le_of_ble_eq_true rfl, by show _ ≤ 601024; omega, by show _ ≤ 7293034; omega⟩ (fun sz => c_L_trigger Y.1 hfl  h3) (Nat.le_of_ble_eq_true rfl) dL_law_1358 ?_
  refine r_istore (pc := 1361) X (by decide) dL_law_1361 ?_
  refine r_aload_n (pc := 1363) X dL_law_1363 rfl ?_
  refine r_aload_n (pc := 1364) X dL_law_1364 rfl ?_
  refine r_iload (pc := 1365) X dL_law_1365 rfl ?_
  refine r_iconst (pc := 1367) X (v := 1) dL_law_1367 (by decide) ?_
  refine r_iadd (pc := 1368) X dL_law_1368 ?_
  refine r_sld (pc := 1369) X Z dL_law_1369 h (fun h => ?_)
  refine r_aload_n (pc := 1370) X dL_law_1370 rfl ?_
  refine r_iload (pc := 1371) X dL_law_1371 rfl ?_
  refine r_iconst (pc := 1373) X (v := 2) dL_law_1373 (by decide) ?_
  refine r_iadd (pc := 1374) X dL_law_1374 ?_
  refine r_sld (pc := 1375) X Z dL_law_1375 h (fun h => ?_)
  refine bndE h (fun r4 M5 h6 h => ?_)
  refine r_callVi2 (pc := 1376) X ⟨(ltb rfl), (ltb rfl)⟩ rfl vy_X12_trigger my_X12_trigger ml_L_197 ⟨Nat.le_of_ble_eq_true rfl, Nat.le_of_ble_eq_true rfl, by show _ ≤ 601024; omega, by show _ ≤ 7293034; omega⟩ (c_X12_trigger  h6) (Nat.le_of_ble_eq_true rfl) dL_law_1376 ?_
  refine r_istore (pc := 1379) X (by decide) dL_law_1379 ?_
  refine r_aload_n (pc := 1381) X dL_law_1381 rfl ?_
  refine bndE h (fun r7 M8 h9 h => ?_)
  refine r_callVi0 (pc := 1382) X ⟨(ltb rfl), (ltb rfl)⟩ rfl vy_X12_thrown my_X12_thrown ml_L_124 ⟨Nat.le_of_ble_eq_true rfl, Nat.le_of_ble_eq_true rfl, by show _ ≤ 601024; omega, by show _ ≤ 7293034; omega⟩ (c_X12_thrown  h9) (Nat.le_of_ble_eq_true rfl) dL_law_1382 ?_
  refine r_iload (pc := 1385) X dL_law_1385 rfl ?_
  refine r_icmp_eq (pc := 1387) X (tgt := 1392) dL_law_1387 (by decide) h (fun h => ?_) (fun h => ?_)
  · refine r_iload (pc := 1392) X dL_law_1392 rfl ?_
    refine r_if_ne (pc := 1394) X (tgt := 1409) dL_law_1394 (by decide) h (fun h => ?_) (fun h => ?_)
    · exact T_widen (k := (ce + 2)) (n := (sl + 12)) (by omega) (by omega) (T_sub (t_L_law_1409 X Y Z hr hfl (by omega) (by omega) hr28 h) ⟨rfl, rfl, rfl, rfl, rfl, rfl, trivial⟩)
    · refine r_aload_n (pc := 1397) X dL_law_1397 rfl ?_
      refine r_iconst (pc := 1398) X (v := 0) dL_law_1398 (by decide) ?_
      refine r_lald (pc := 1399) X (n := 1) ⟨(ltb rfl), (ltb rfl), hfl⟩ rfl (nlt rfl) dL_law_1399 h (fun h => ?_)
      refine r_iload (pc := 1400) X dL_law_1400 rfl ?_
      refine r_i2l (pc := 1402) X dL_law_1402 ?_
      refine r_lcmp (pc := 1403) X dL_law_1403 ?_
      refine r_if_eq (pc := 1404) X (tgt := 1409) dL_law_1404 (by decide) h (fun h => ?_) (fun h => ?_)
      · exact T_widen (k := (ce + 2)) (n := (sl + 12)) (by omega) (by omega) (T_sub (t_L_law_1409 X Y Z hr hfl (by omega) (by omega) hr28 h) ⟨rfl, rfl, rfl, rfl, rfl, rfl, trivial⟩)
      · refine r_iconst (pc := 1407) X (v := 0) dL_law_1407 (by decide) ?_
        exact ret0 h
  · refine r_iconst (pc := 1390) X (v := 0) dL_law_1390 (by decide) ?_
    exact ret0 h
def f_L_law_1477 (xs : Nat → Int32) (L : Nat) (r28 : Int32 → Mem → Option (Int32 × Mem)) (x5 : Int32) (M : Mem) : Option (Int32 × Mem) :=
  f_L_law_2259 xs L r28 x5 M
set_option maxHeartbeats 4000000 in
set_option maxRecDepth 100000 in
theorem t_L_law_1477 {G : GG} {p : Program} {l : Launch} {e : Env} {s : State} {m : MethodId} {below : List Frame} {meth : Method} {c : Code} {b L : Nat} {xs : Nat → Int32} {M' : Mem} (X : Cx G (AL s) p s m #[Value.ref b] meth c RL cL_law 9) (Y : CxH G (AL s) l s) (Z : CxL (AL s) s b L xs) (hr : meth.sig.returnType = ret) (hfl : G.2.2.2.2 = true) {ce sl : Nat} (hce : ce + 2 ≤ 601024) (hsl : sl + 12 ≤ 7293034) {r28 : Int32 → Mem → Option (Int32 × Mem)} (hr28 : ∀ (x5 : Int32) (M : Mem), r28 x5 M = some (1, M') → T G (AL s) p l e room_1 s m #[Value.ref b] below meth c 9 (ce + 2) (sl + 12) (lw_Z below #[Value.ref b] s) 28 [(0, .ref b), (1, .ref (G.2.1 (9, 0, 0))), (2, .ref (G.2.1 (10, 0, 0))), (3, .ref (G.2.1 (40, 0, 0))), (4, .ref (G.2.1 (41, 0, 0))), (5, .int x5)] [] M) {x5 : Int32} {M : Mem}  (h : f_L_law_1477 xs L r28 x5 M = some (1, M')) : T G (AL s) p l e room_1 s m #[Value.ref b] below meth c 9 (ce + 2) (sl + 12) (lw_Z below #[Value.ref b] s) 1477 [(0, .ref b), (1, .ref (G.2.1 (9, 0, 0))), (2, .ref (G.2.1 (10, 0, 0))), (3, .ref (G.2.1 (40, 0, 0))), (4, .ref (G.2.1 (41, 0, 0))), (5, .int x5)] [] M := by
  unfold f_L_law_1477 at h
  refine r_goto (pc := 1477) X (tgt := 2259) dL_law_1477 (by decide) ?_
  exact T_widen (k := (ce + 2)) (n := (sl + 12)) (by omega) (by omega) (T_sub (t_L_law_2259 X Y Z hr hfl (by omega) (by omega) hr28 h) ⟨rfl, rfl, rfl, rfl, rfl, rfl, trivial⟩)
def f_L_law_1412 (xs : Nat → Int32) (L : Nat) (r28 : Int32 → Mem → Option (Int32 × Mem)) (x5 : Int32) (M : Mem) : Option (Int32 × Mem) :=
  if bad (x5 + 1) L then none else if bad (x5 + 2) L then none else bnd (f_L_window (xs (Int32.toNatClampNeg (x5 + 1))) (xs (Int32.toNatClampNeg (x5 + 2))) M) (fun r1 M2 => if bad (x5 + 1) L then none else if bad (x5 + 2) L then none else bnd (f_X12_window (xs (Int32.toNatClampNeg (x5 + 1))) (xs (Int32.toNatClampNeg (x5 + 2))) M2) (fun r4 M5 => bnd (f_X12_thrown  M5) (fun r7 M8 => if r7 = r1 then if r1 = 0 then if bad 0 1 then none else if (lg_cmp (M8.2.1 (40, 0, 0) (Int32.toNatClampNeg 0)) (Int32.toInt64 r4)) = 0 then f_L_law_1477 xs L r28 x5 M8 else some (0, M8) else f_L_law_1477 xs L r28 x5 M8 else some (0, M8))))
set_option maxHeartbeats 4000000 in
set_option maxRecDepth 100000 in
theorem t_L_law_1412 {G : GG} {p : Program} {l : Launch} {e : Env} {s : State} {m : MethodId} {below : List Frame} {meth : Method} {c : Code} {b L : Nat} {xs : Nat → Int32} {M' : Mem} (X : Cx G (AL s) p s m #[Value.ref b] meth c RL cL_law 9) (Y : CxH G (AL s) l s) (Z : CxL (AL s) s b L xs) (hr : meth.sig.returnType = ret) (hfl : G.2.2.2.2 = true) {ce sl : Nat} (hce : ce + 2 ≤ 601024) (hsl : sl + 12 ≤ 7293034) {r28 : Int32 → Mem → Option (Int32 × Mem)} (hr28 : ∀ (x5 : Int32) (M : Mem), r28 x5 M = some (1, M') → T G (AL s) p l e room_1 s m #[Value.ref b] below meth c 9 (ce + 2) (sl + 12) (lw_Z below #[Value.ref b] s) 28 [(0, .ref b), (1, .ref (G.2.1 (9, 0, 0))), (2, .ref (G.2.1 (10, 0, 0))), (3, .ref (G.2.1 (40, 0, 0))), (4, .ref (G.2.1 (41, 0, 0))), (5, .int x5)] [] M) {x5 : Int32} {M : Mem}  (h : f_L_law_1412 xs L r28 x5 M = some (1, M')) : T G (AL s) p l e room_1 s m #[Value.ref b] below meth c 9 ce sl (lw_Z below #[Value.ref b] s) 1412 [(0, .ref b), (1, .ref (G.2.1 (9, 0, 0))), (2, .ref (G.2.1 (10, 0, 0))), (3, .ref (G.2.1 (40, 0, 0))), (4, .ref (G.2.1 (41, 0, 0))), (5, .int x5)] [] M := by
  unfold f_L_law_1412 at h
  refine r_aload_n (pc := 1412) X dL_law_1412 rfl ?_
  refine r_aload_n (pc := 1413) X dL_law_1413 rfl ?_
  refine r_iload (pc := 1414) X dL_law_1414 rfl ?_
  refine r_iconst (pc := 1416) X (v := 1) dL_law_1416 (by decide) ?_
  refine r_iadd (pc := 1417) X dL_law_1417 ?_
  refine r_sld (pc := 1418) X Z dL_law_1418 h (fun h => ?_)
  refine r_aload_n (pc := 1419) X dL_law_1419 rfl ?_
  refine r_iload (pc := 1420) X dL_law_1420 rfl ?_
  refine r_iconst (pc := 1422) X (v := 2) dL_law_1422 (by decide) ?_
  refine r_iadd (pc := 1423) X dL_law_1423 ?_
  refine r_sld (pc := 1424) X Z dL_law_1424 h (fun h => ?_)
  refine r_aload_n (pc := 1425) X dL_law_1425 rfl ?_
  refine bndE h (fun r1 M2 h3 h => ?_)
  refine r_callHS4 (pc := 1426) X Y sy_L_window myh_L_window ml_L_198 ⟨Nat.le_of_ble_eq_true rfl, Nat.le_of_ble_eq_true rfl, by show _ ≤ 601024; omega, by show _ ≤ 7293034; omega⟩ (fun sz => c_L_window Y.1 hfl  h3) (Nat.le_of_ble_eq_true rfl) dL_law_1426 ?_
  refine r_istore (pc := 1429) X (by decide) dL_law_1429 ?_
  refine r_aload_n (pc := 1431) X dL_law_1431 rfl ?_
  refine r_aload_n (pc := 1432) X dL_law_1432 rfl ?_
  refine r_iload (pc := 1433) X dL_law_1433 rfl ?_
  refine r_iconst (pc := 1435) X (v := 1) dL_law_1435 (by decide) ?_
  refine r_iadd (pc := 1436) X dL_law_1436 ?_
  refine r_sld (pc := 1437) X Z dL_law_1437 h (fun h => ?_)
  refine r_aload_n (pc := 1438) X dL_law_1438 rfl ?_
  refine r_iload (pc := 1439) X dL_law_1439 rfl ?_
  refine r_iconst (pc := 1441) X (v := 2) dL_law_1441 (by decide) ?_
  refine r_iadd (pc := 1442) X dL_law_1442 ?_
  refine r_sld (pc := 1443) X Z dL_law_1443 h (fun h => ?_)
  refine bndE h (fun r4 M5 h6 h => ?_)
  refine r_callVi2 (pc := 1444) X ⟨(ltb rfl), (ltb rfl)⟩ rfl vy_X12_window my_X12_window ml_L_200 ⟨Nat.le_of_ble_eq_true rfl, Nat.le_of_ble_eq_true rfl, by show _ ≤ 601024; omega, by show _ ≤ 7293034; omega⟩ (c_X12_window  h6) (Nat.le_of_ble_eq_true rfl) dL_law_1444 ?_
  refine r_istore (pc := 1447) X (by decide) dL_law_1447 ?_
  refine r_aload_n (pc := 1449) X dL_law_1449 rfl ?_
  refine bndE h (fun r7 M8 h9 h => ?_)
  refine r_callVi0 (pc := 1450) X ⟨(ltb rfl), (ltb rfl)⟩ rfl vy_X12_thrown my_X12_thrown ml_L_124 ⟨Nat.le_of_ble_eq_true rfl, Nat.le_of_ble_eq_true rfl, by show _ ≤ 601024; omega, by show _ ≤ 7293034; omega⟩ (c_X12_thrown  h9) (Nat.le_of_ble_eq_true rfl) dL_law_1450 ?_
  refine r_iload (pc := 1453) X dL_law_1453 rfl ?_
  refine r_icmp_eq (pc := 1455) X (tgt := 1460) dL_law_1455 (by decide) h (fun h => ?_) (fun h => ?_)
  · refine r_iload (pc := 1460) X dL_law_1460 rfl ?_
    refine r_if_ne (pc := 1462) X (tgt := 1477) dL_law_1462 (by decide) h (fun h => ?_) (fun h => ?_)
    · exact T_widen (k := (ce + 2)) (n := (sl + 12)) (by omega) (by omega) (T_sub (t_L_law_1477 X Y Z hr hfl (by omega) (by omega) hr28 h) ⟨rfl, rfl, rfl, rfl, rfl, rfl, trivial⟩)
    · refine r_aload_n (pc := 1465) X dL_law_1465 rfl ?_
      refine r_iconst (pc := 1466) X (v := 0) dL_law_1466 (by decide) ?_
      refine r_lald (pc := 1467) X (n := 1) ⟨(ltb rfl), (ltb rfl), hfl⟩ rfl (nlt rfl) dL_law_1467 h (fun h => ?_)
      refine r_iload (pc := 1468) X dL_law_1468 rfl ?_
      refine r_i2l (pc := 1470) X dL_law_1470 ?_
      refine r_lcmp (pc := 1471) X dL_law_1471 ?_
      refine r_if_eq (pc := 1472) X (tgt := 1477) dL_law_1472 (by decide) h (fun h => ?_) (fun h => ?_)
      · exact T_widen (k := (ce + 2)) (n := (sl + 12)) (by omega) (by omega) (T_sub (t_L_law_1477 X Y Z hr hfl (by omega) (by omega) hr28 h) ⟨rfl, rfl, rfl, rfl, rfl, rfl, trivial⟩)
      · refine r_iconst (pc := 1475) X (v := 0) dL_law_1475 (by decide) ?_
        exact ret0 h
  · refine r_iconst (pc := 1458) X (v := 0) dL_law_1458 (by decide) ?_
    exact ret0 h
def f_L_law_1545 (xs : Nat → Int32) (L : Nat) (r28 : Int32 → Mem → Option (Int32 × Mem)) (x5 : Int32) (M : Mem) : Option (Int32 × Mem) :=
  f_L_law_2259 xs L r28 x5 M
set_option maxHeartbeats 4000000 in
set_option maxRecDepth 100000 in
theorem t_L_law_1545 {G : GG} {p : Program} {l : Launch} {e : Env} {s : State} {m : MethodId} {below : List Frame} {meth : Method} {c : Code} {b L : Nat} {xs : Nat → Int32} {M' : Mem} (X : Cx G (AL s) p s m #[Value.ref b] meth c RL cL_law 9) (Y : CxH G (AL s) l s) (Z : CxL (AL s) s b L xs) (hr : meth.sig.returnType = ret) (hfl : G.2.2.2.2 = true) {ce sl : Nat} (hce : ce + 2 ≤ 601024) (hsl : sl + 12 ≤ 7293034) {r28 : Int32 → Mem → Option (Int32 × Mem)} (hr28 : ∀ (x5 : Int32) (M : Mem), r28 x5 M = some (1, M') → T G (AL s) p l e room_1 s m #[Value.ref b] below meth c 9 (ce + 2) (sl + 12) (lw_Z below #[Value.ref b] s) 28 [(0, .ref b), (1, .ref (G.2.1 (9, 0, 0))), (2, .ref (G.2.1 (10, 0, 0))), (3, .ref (G.2.1 (40, 0, 0))), (4, .ref (G.2.1 (41, 0, 0))), (5, .int x5)] [] M) {x5 : Int32} {M : Mem}  (h : f_L_law_1545 xs L r28 x5 M = some (1, M')) : T G (AL s) p l e room_1 s m #[Value.ref b] below meth c 9 (ce + 2) (sl + 12) (lw_Z below #[Value.ref b] s) 1545 [(0, .ref b), (1, .ref (G.2.1 (9, 0, 0))), (2, .ref (G.2.1 (10, 0, 0))), (3, .ref (G.2.1 (40, 0, 0))), (4, .ref (G.2.1 (41, 0, 0))), (5, .int x5)] [] M := by
  unfold f_L_law_1545 at h
  refine r_goto (pc := 1545) X (tgt := 2259) dL_law_1545 (by decide) ?_
  exact T_widen (k := (ce + 2)) (n := (sl + 12)) (by omega) (by omega) (T_sub (t_L_law_2259 X Y Z hr hfl (by omega) (by omega) hr28 h) ⟨rfl, rfl, rfl, rfl, rfl, rfl, trivial⟩)
def f_L_law_1480 (xs : Nat → Int32) (L : Nat) (r28 : Int32 → Mem → Option (Int32 × Mem)) (x5 : Int32) (M : Mem) : Option (Int32 × Mem) :=
  if bad (x5 + 1) L then none else if bad (x5 + 2) L then none else bnd (f_L_signal (xs (Int32.toNatClampNeg (x5 + 1))) (xs (Int32.toNatClampNeg (x5 + 2))) M) (fun r1 M2 => if bad (x5 + 1) L then none else if bad (x5 + 2) L then none else bnd (f_X12_signal (xs (Int32.toNatClampNeg (x5 + 1))) (xs (Int32.toNatClampNeg (x5 + 2))) M2) (fun r4 M5 => bnd (f_X12_thrown  M5) (fun r7 M8 => if r7 = r1 then if r1 = 0 then if bad 0 1 then none else if (lg_cmp (M8.2.1 (40, 0, 0) (Int32.toNatClampNeg 0)) (Int32.toInt64 r4)) = 0 then f_L_law_1545 xs L r28 x5 M8 else some (0, M8) else f_L_law_1545 xs L r28 x5 M8 else some (0, M8))))
set_option maxHeartbeats 4000000 in
set_option maxRecDepth 100000 in
theorem t_L_law_1480 {G : GG} {p : Program} {l : Launch} {e : Env} {s : State} {m : MethodId} {below : List Frame} {meth : Method} {c : Code} {b L : Nat} {xs : Nat → Int32} {M' : Mem} (X : Cx G (AL s) p s m #[Value.ref b] meth c RL cL_law 9) (Y : CxH G (AL s) l s) (Z : CxL (AL s) s b L xs) (hr : meth.sig.returnType = ret) (hfl : G.2.2.2.2 = true) {ce sl : Nat} (hce : ce + 2 ≤ 601024) (hsl : sl + 12 ≤ 7293034) {r28 : Int32 → Mem → Option (Int32 × Mem)} (hr28 : ∀ (x5 : Int32) (M : Mem), r28 x5 M = some (1, M') → T G (AL s) p l e room_1 s m #[Value.ref b] below meth c 9 (ce + 2) (sl + 12) (lw_Z below #[Value.ref b] s) 28 [(0, .ref b), (1, .ref (G.2.1 (9, 0, 0))), (2, .ref (G.2.1 (10, 0, 0))), (3, .ref (G.2.1 (40, 0, 0))), (4, .ref (G.2.1 (41, 0, 0))), (5, .int x5)] [] M) {x5 : Int32} {M : Mem}  (h : f_L_law_1480 xs L r28 x5 M = some (1, M')) : T G (AL s) p l e room_1 s m #[Value.ref b] below meth c 9 ce sl (lw_Z below #[Value.ref b] s) 1480 [(0, .ref b), (1, .ref (G.2.1 (9, 0, 0))), (2, .ref (G.2.1 (10, 0, 0))), (3, .ref (G.2.1 (40, 0, 0))), (4, .ref (G.2.1 (41, 0, 0))), (5, .int x5)] [] M := by
  unfold f_L_law_1480 at h
  refine r_aload_n (pc := 1480) X dL_law_1480 rfl ?_
  refine r_aload_n (pc := 1481) X dL_law_1481 rfl ?_
  refine r_iload (pc := 1482) X dL_law_1482 rfl ?_
  refine r_iconst (pc := 1484) X (v := 1) dL_law_1484 (by decide) ?_
  refine r_iadd (pc := 1485) X dL_law_1485 ?_
  refine r_sld (pc := 1486) X Z dL_law_1486 h (fun h => ?_)
  refine r_aload_n (pc := 1487) X dL_law_1487 rfl ?_
  refine r_iload (pc := 1488) X dL_law_1488 rfl ?_
  refine r_iconst (pc := 1490) X (v := 2) dL_law_1490 (by decide) ?_
  refine r_iadd (pc := 1491) X dL_law_1491 ?_
  refine r_sld (pc := 1492) X Z dL_law_1492 h (fun h => ?_)
  refine r_aload_n (pc := 1493) X dL_law_1493 rfl ?_
  refine bndE h (fun r1 M2 h3 h => ?_)
  refine r_callHS4 (pc := 1494) X Y sy_L_signal myh_L_signal ml_L_201 ⟨Nat.le_of_ble_eq_true rfl, Nat.le_of_ble_eq_true rfl, by show _ ≤ 601024; omega, by show _ ≤ 7293034; omega⟩ (fun sz => c_L_signal Y.1 hfl  h3) (Nat.le_of_ble_eq_true rfl) dL_law_1494 ?_
  refine r_istore (pc := 1497) X (by decide) dL_law_1497 ?_
  refine r_aload_n (pc := 1499) X dL_law_1499 rfl ?_
  refine r_aload_n (pc := 1500) X dL_law_1500 rfl ?_
  refine r_iload (pc := 1501) X dL_law_1501 rfl ?_
  refine r_iconst (pc := 1503) X (v := 1) dL_law_1503 (by decide) ?_
  refine r_iadd (pc := 1504) X dL_law_1504 ?_
  refine r_sld (pc := 1505) X Z dL_law_1505 h (fun h => ?_)
  refine r_aload_n (pc := 1506) X dL_law_1506 rfl ?_
  refine r_iload (pc := 1507) X dL_law_1507 rfl ?_
  refine r_iconst (pc := 1509) X (v := 2) dL_law_1509 (by decide) ?_
  refine r_iadd (pc := 1510) X dL_law_1510 ?_
  refine r_sld (pc := 1511) X Z dL_law_1511 h (fun h => ?_)
  refine bndE h (fun r4 M5 h6 h => ?_)
  refine r_callVi2 (pc := 1512) X ⟨(ltb rfl), (ltb rfl)⟩ rfl vy_X12_signal my_X12_signal ml_L_203 ⟨Nat.le_of_ble_eq_true rfl, Nat.le_of_ble_eq_true rfl, by show _ ≤ 601024; omega, by show _ ≤ 7293034; omega⟩ (c_X12_signal  h6) (Nat.le_of_ble_eq_true rfl) dL_law_1512 ?_
  refine r_istore (pc := 1515) X (by decide) dL_law_1515 ?_
  refine r_aload_n (pc := 1517) X dL_law_1517 rfl ?_
  refine bndE h (fun r7 M8 h9 h => ?_)
  refine r_callVi0 (pc := 1518) X ⟨(ltb rfl), (ltb rfl)⟩ rfl vy_X12_thrown my_X12_thrown ml_L_124 ⟨Nat.le_of_ble_eq_true rfl, Nat.le_of_ble_eq_true rfl, by show _ ≤ 601024; omega, by show _ ≤ 7293034; omega⟩ (c_X12_thrown  h9) (Nat.le_of_ble_eq_true rfl) dL_law_1518 ?_
  refine r_iload (pc := 1521) X dL_law_1521 rfl ?_
  refine r_icmp_eq (pc := 1523) X (tgt := 1528) dL_law_1523 (by decide) h (fun h => ?_) (fun h => ?_)
  · refine r_iload (pc := 1528) X dL_law_1528 rfl ?_
    refine r_if_ne (pc := 1530) X (tgt := 1545) dL_law_1530 (by decide) h (fun h => ?_) (fun h => ?_)
    · exact T_widen (k := (ce + 2)) (n := (sl + 12)) (by omega) (by omega) (T_sub (t_L_law_1545 X Y Z hr hfl (by omega) (by omega) hr28 h) ⟨rfl, rfl, rfl, rfl, rfl, rfl, trivial⟩)
    · refine r_aload_n (pc := 1533) X dL_law_1533 rfl ?_
      refine r_iconst (pc := 1534) X (v := 0) dL_law_1534 (by decide) ?_
      refine r_lald (pc := 1535) X (n := 1) ⟨(ltb rfl), (ltb rfl), hfl⟩ rfl (nlt rfl) dL_law_1535 h (fun h => ?_)
      refine r_iload (pc := 1536) X dL_law_1536 rfl ?_
      refine r_i2l (pc := 1538) X dL_law_1538 ?_
      refine r_lcmp (pc := 1539) X dL_law_1539 ?_
      refine r_if_eq (pc := 1540) X (tgt := 1545) dL_law_1540 (by decide) h (fun h => ?_) (fun h => ?_)
      · exact T_widen (k := (ce + 2)) (n := (sl + 12)) (by omega) (by omega) (T_sub (t_L_law_1545 X Y Z hr hfl (by omega) (by omega) hr28 h) ⟨rfl, rfl, rfl, rfl, rfl, rfl, trivial⟩)
      · refine r_iconst (pc := 1543) X (v := 0) dL_law_1543 (by decide) ?_
        exact ret0 h
  · refine r_iconst (pc := 1526) X (v := 0) dL_law_1526 (by decide) ?_
    exact ret0 h
def f_L_law_1613 (xs : Nat → Int32) (L : Nat) (r28 : Int32 → Mem → Option (Int32 × Mem)) (x5 : Int32) (M : Mem) : Option (Int32 × Mem) :=
  f_L_law_2259 xs L r28 x5 M
set_option maxHeartbeats 4000000 in
set_option maxRecDepth 100000 in
theorem t_L_law_1613 {G : GG} {p : Program} {l : Launch} {e : Env} {s : State} {m : MethodId} {below : List Frame} {meth : Method} {c : Code} {b L : Nat} {xs : Nat → Int32} {M' : Mem} (X : Cx G (AL s) p s m #[Value.ref b] meth c RL cL_law 9) (Y : CxH G (AL s) l s) (Z : CxL (AL s) s b L xs) (hr : meth.sig.returnType = ret) (hfl : G.2.2.2.2 = true) {ce sl : Nat} (hce : ce + 2 ≤ 601024) (hsl : sl + 12 ≤ 7293034) {r28 : Int32 → Mem → Option (Int32 × Mem)} (hr28 : ∀ (x5 : Int32) (M : Mem), r28 x5 M = some (1, M') → T G (AL s) p l e room_1 s m #[Value.ref b] below meth c 9 (ce + 2) (sl + 12) (lw_Z below #[Value.ref b] s) 28 [(0, .ref b), (1, .ref (G.2.1 (9, 0, 0))), (2, .ref (G.2.1 (10, 0, 0))), (3, .ref (G.2.1 (40, 0, 0))), (4, .ref (G.2.1 (41, 0, 0))), (5, .int x5)] [] M) {x5 : Int32} {M : Mem}  (h : f_L_law_1613 xs L r28 x5 M = some (1, M')) : T G (AL s) p l e room_1 s m #[Value.ref b] below meth c 9 (ce + 2) (sl + 12) (lw_Z below #[Value.ref b] s) 1613 [(0, .ref b), (1, .ref (G.2.1 (9, 0, 0))), (2, .ref (G.2.1 (10, 0, 0))), (3, .ref (G.2.1 (40, 0, 0))), (4, .ref (G.2.1 (41, 0, 0))), (5, .int x5)] [] M := by
  unfold f_L_law_1613 at h
  refine r_goto (pc := 1613) X (tgt := 2259) dL_law_1613 (by decide) ?_
  exact T_widen (k := (ce + 2)) (n := (sl + 12)) (by omega) (by omega) (T_sub (t_L_law_2259 X Y Z hr hfl (by omega) (by omega) hr28 h) ⟨rfl, rfl, rfl, rfl, rfl, rfl, trivial⟩)
def f_L_law_1548 (xs : Nat → Int32) (L : Nat) (r28 : Int32 → Mem → Option (Int32 × Mem)) (x5 : Int32) (M : Mem) : Option (Int32 × Mem) :=
  if bad (x5 + 1) L then none else if bad (x5 + 2) L then none else bnd (f_L_queued (xs (Int32.toNatClampNeg (x5 + 1))) (xs (Int32.toNatClampNeg (x5 + 2))) M) (fun r1 M2 => if bad (x5 + 1) L then none else if bad (x5 + 2) L then none else bnd (f_X12_queued (xs (Int32.toNatClampNeg (x5 + 1))) (xs (Int32.toNatClampNeg (x5 + 2))) M2) (fun r4 M5 => bnd (f_X12_thrown  M5) (fun r7 M8 => if r7 = r1 then if r1 = 0 then if bad 0 1 then none else if (lg_cmp (M8.2.1 (40, 0, 0) (Int32.toNatClampNeg 0)) (Int32.toInt64 r4)) = 0 then f_L_law_1613 xs L r28 x5 M8 else some (0, M8) else f_L_law_1613 xs L r28 x5 M8 else some (0, M8))))
set_option maxHeartbeats 4000000 in
set_option maxRecDepth 100000 in
theorem t_L_law_1548 {G : GG} {p : Program} {l : Launch} {e : Env} {s : State} {m : MethodId} {below : List Frame} {meth : Method} {c : Code} {b L : Nat} {xs : Nat → Int32} {M' : Mem} (X : Cx G (AL s) p s m #[Value.ref b] meth c RL cL_law 9) (Y : CxH G (AL s) l s) (Z : CxL (AL s) s b L xs) (hr : meth.sig.returnType = ret) (hfl : G.2.2.2.2 = true) {ce sl : Nat} (hce : ce + 2 ≤ 601024) (hsl : sl + 12 ≤ 7293034) {r28 : Int32 → Mem → Option (Int32 × Mem)} (hr28 : ∀ (x5 : Int32) (M : Mem), r28 x5 M = some (1, M') → T G (AL s) p l e room_1 s m #[Value.ref b] below meth c 9 (ce + 2) (sl + 12) (lw_Z below #[Value.ref b] s) 28 [(0, .ref b), (1, .ref (G.2.1 (9, 0, 0))), (2, .ref (G.2.1 (10, 0, 0))), (3, .ref (G.2.1 (40, 0, 0))), (4, .ref (G.2.1 (41, 0, 0))), (5, .int x5)] [] M) {x5 : Int32} {M : Mem}  (h : f_L_law_1548 xs L r28 x5 M = some (1, M')) : T G (AL s) p l e room_1 s m #[Value.ref b] below meth c 9 ce sl (lw_Z below #[Value.ref b] s) 1548 [(0, .ref b), (1, .ref (G.2.1 (9, 0, 0))), (2, .ref (G.2.1 (10, 0, 0))), (3, .ref (G.2.1 (40, 0, 0))), (4, .ref (G.2.1 (41, 0, 0))), (5, .int x5)] [] M := by
  unfold f_L_law_1548 at h
  refine r_aload_n (pc := 1548) X dL_law_1548 rfl ?_
  refine r_aload_n (pc := 1549) X dL_law_1549 rfl ?_
  refine r_iload (pc := 1550) X dL_law_1550 rfl ?_
  refine r_iconst (pc := 1552) X (v := 1) dL_law_1552 (by decide) ?_
  refine r_iadd (pc := 1553) X dL_law_1553 ?_
  refine r_sld (pc := 1554) X Z dL_law_1554 h (fun h => ?_)
  refine r_aload_n (pc := 1555) X dL_law_1555 rfl ?_
  refine r_iload (pc := 1556) X dL_law_1556 rfl ?_
  refine r_iconst (pc := 1558) X (v := 2) dL_law_1558 (by decide) ?_
  refine r_iadd (pc := 1559) X dL_law_1559 ?_
  refine r_sld (pc := 1560) X Z dL_law_1560 h (fun h => ?_)
  refine r_aload_n (pc := 1561) X dL_law_1561 rfl ?_
  refine bndE h (fun r1 M2 h3 h => ?_)
  refine r_callHS4 (pc := 1562) X Y sy_L_queued myh_L_queued ml_L_204 ⟨Nat.le_of_ble_eq_true rfl, Nat.le_of_ble_eq_true rfl, by show _ ≤ 601024; omega, by show _ ≤ 7293034; omega⟩ (fun sz => c_L_queued Y.1 hfl  h3) (Nat.le_of_ble_eq_true rfl) dL_law_1562 ?_
  refine r_istore (pc := 1565) X (by decide) dL_law_1565 ?_
  refine r_aload_n (pc := 1567) X dL_law_1567 rfl ?_
  refine r_aload_n (pc := 1568) X dL_law_1568 rfl ?_
  refine r_iload (pc := 1569) X dL_law_1569 rfl ?_
  refine r_iconst (pc := 1571) X (v := 1) dL_law_1571 (by decide) ?_
  refine r_iadd (pc := 1572) X dL_law_1572 ?_
  refine r_sld (pc := 1573) X Z dL_law_1573 h (fun h => ?_)
  refine r_aload_n (pc := 1574) X dL_law_1574 rfl ?_
  refine r_iload (pc := 1575) X dL_law_1575 rfl ?_
  refine r_iconst (pc := 1577) X (v := 2) dL_law_1577 (by decide) ?_
  refine r_iadd (pc := 1578) X dL_law_1578 ?_
  refine r_sld (pc := 1579) X Z dL_law_1579 h (fun h => ?_)
  refine bndE h (fun r4 M5 h6 h => ?_)
  refine r_callVi2 (pc := 1580) X ⟨(ltb rfl), (ltb rfl)⟩ rfl vy_X12_queued my_X12_queued ml_L_206 ⟨Nat.le_of_ble_eq_true rfl, Nat.le_of_ble_eq_true rfl, by show _ ≤ 601024; omega, by show _ ≤ 7293034; omega⟩ (c_X12_queued  h6) (Nat.le_of_ble_eq_true rfl) dL_law_1580 ?_
  refine r_istore (pc := 1583) X (by decide) dL_law_1583 ?_
  refine r_aload_n (pc := 1585) X dL_law_1585 rfl ?_
  refine bndE h (fun r7 M8 h9 h => ?_)
  refine r_callVi0 (pc := 1586) X ⟨(ltb rfl), (ltb rfl)⟩ rfl vy_X12_thrown my_X12_thrown ml_L_124 ⟨Nat.le_of_ble_eq_true rfl, Nat.le_of_ble_eq_true rfl, by show _ ≤ 601024; omega, by show _ ≤ 7293034; omega⟩ (c_X12_thrown  h9) (Nat.le_of_ble_eq_true rfl) dL_law_1586 ?_
  refine r_iload (pc := 1589) X dL_law_1589 rfl ?_
  refine r_icmp_eq (pc := 1591) X (tgt := 1596) dL_law_1591 (by decide) h (fun h => ?_) (fun h => ?_)
  · refine r_iload (pc := 1596) X dL_law_1596 rfl ?_
    refine r_if_ne (pc := 1598) X (tgt := 1613) dL_law_1598 (by decide) h (fun h => ?_) (fun h => ?_)
    · exact T_widen (k := (ce + 2)) (n := (sl + 12)) (by omega) (by omega) (T_sub (t_L_law_1613 X Y Z hr hfl (by omega) (by omega) hr28 h) ⟨rfl, rfl, rfl, rfl, rfl, rfl, trivial⟩)
    · refine r_aload_n (pc := 1601) X dL_law_1601 rfl ?_
      refine r_iconst (pc := 1602) X (v := 0) dL_law_1602 (by decide) ?_
      refine r_lald (pc := 1603) X (n := 1) ⟨(ltb rfl), (ltb rfl), hfl⟩ rfl (nlt rfl) dL_law_1603 h (fun h => ?_)
      refine r_iload (pc := 1604) X dL_law_1604 rfl ?_
      refine r_i2l (pc := 1606) X dL_law_1606 ?_
      refine r_lcmp (pc := 1607) X dL_law_1607 ?_
      refine r_if_eq (pc := 1608) X (tgt := 1613) dL_law_1608 (by decide) h (fun h => ?_) (fun h => ?_)
      · exact T_widen (k := (ce + 2)) (n := (sl + 12)) (by omega) (by omega) (T_sub (t_L_law_1613 X Y Z hr hfl (by omega) (by omega) hr28 h) ⟨rfl, rfl, rfl, rfl, rfl, rfl, trivial⟩)
      · refine r_iconst (pc := 1611) X (v := 0) dL_law_1611 (by decide) ?_
        exact ret0 h
  · refine r_iconst (pc := 1594) X (v := 0) dL_law_1594 (by decide) ?_
    exact ret0 h
def f_L_law_1681 (xs : Nat → Int32) (L : Nat) (r28 : Int32 → Mem → Option (Int32 × Mem)) (x5 : Int32) (M : Mem) : Option (Int32 × Mem) :=
  f_L_law_2259 xs L r28 x5 M
set_option maxHeartbeats 4000000 in
set_option maxRecDepth 100000 in
theorem t_L_law_1681 {G : GG} {p : Program} {l : Launch} {e : Env} {s : State} {m : MethodId} {below : List Frame} {meth : Method} {c : Code} {b L : Nat} {xs : Nat → Int32} {M' : Mem} (X : Cx G (AL s) p s m #[Value.ref b] meth c RL cL_law 9) (Y : CxH G (AL s) l s) (Z : CxL (AL s) s b L xs) (hr : meth.sig.returnType = ret) (hfl : G.2.2.2.2 = true) {ce sl : Nat} (hce : ce + 2 ≤ 601024) (hsl : sl + 12 ≤ 7293034) {r28 : Int32 → Mem → Option (Int32 × Mem)} (hr28 : ∀ (x5 : Int32) (M : Mem), r28 x5 M = some (1, M') → T G (AL s) p l e room_1 s m #[Value.ref b] below meth c 9 (ce + 2) (sl + 12) (lw_Z below #[Value.ref b] s) 28 [(0, .ref b), (1, .ref (G.2.1 (9, 0, 0))), (2, .ref (G.2.1 (10, 0, 0))), (3, .ref (G.2.1 (40, 0, 0))), (4, .ref (G.2.1 (41, 0, 0))), (5, .int x5)] [] M) {x5 : Int32} {M : Mem}  (h : f_L_law_1681 xs L r28 x5 M = some (1, M')) : T G (AL s) p l e room_1 s m #[Value.ref b] below meth c 9 (ce + 2) (sl + 12) (lw_Z below #[Value.ref b] s) 1681 [(0, .ref b), (1, .ref (G.2.1 (9, 0, 0))), (2, .ref (G.2.1 (10, 0, 0))), (3, .ref (G.2.1 (40, 0, 0))), (4, .ref (G.2.1 (41, 0, 0))), (5, .int x5)] [] M := by
  unfold f_L_law_1681 at h
  refine r_goto (pc := 1681) X (tgt := 2259) dL_law_1681 (by decide) ?_
  exact T_widen (k := (ce + 2)) (n := (sl + 12)) (by omega) (by omega) (T_sub (t_L_law_2259 X Y Z hr hfl (by omega) (by omega) hr28 h) ⟨rfl, rfl, rfl, rfl, rfl, rfl, trivial⟩)
def f_L_law_1616 (xs : Nat → Int32) (L : Nat) (r28 : Int32 → Mem → Option (Int32 × Mem)) (x5 : Int32) (M : Mem) : Option (Int32 × Mem) :=
  if bad (x5 + 1) L then none else if bad (x5 + 2) L then none else bnd (f_L_stored (xs (Int32.toNatClampNeg (x5 + 1))) (xs (Int32.toNatClampNeg (x5 + 2))) M) (fun r1 M2 => if bad (x5 + 1) L then none else if bad (x5 + 2) L then none else bnd (f_X12_stored (xs (Int32.toNatClampNeg (x5 + 1))) (xs (Int32.toNatClampNeg (x5 + 2))) M2) (fun r4 M5 => bnd (f_X12_thrown  M5) (fun r7 M8 => if r7 = r1 then if r1 = 0 then if bad 0 1 then none else if (lg_cmp (M8.2.1 (40, 0, 0) (Int32.toNatClampNeg 0)) (Int32.toInt64 r4)) = 0 then f_L_law_1681 xs L r28 x5 M8 else some (0, M8) else f_L_law_1681 xs L r28 x5 M8 else some (0, M8))))
set_option maxHeartbeats 4000000 in
set_option maxRecDepth 100000 in
theorem t_L_law_1616 {G : GG} {p : Program} {l : Launch} {e : Env} {s : State} {m : MethodId} {below : List Frame} {meth : Method} {c : Code} {b L : Nat} {xs : Nat → Int32} {M' : Mem} (X : Cx G (AL s) p s m #[Value.ref b] meth c RL cL_law 9) (Y : CxH G (AL s) l s) (Z : CxL (AL s) s b L xs) (hr : meth.sig.returnType = ret) (hfl : G.2.2.2.2 = true) {ce sl : Nat} (hce : ce + 2 ≤ 601024) (hsl : sl + 12 ≤ 7293034) {r28 : Int32 → Mem → Option (Int32 × Mem)} (hr28 : ∀ (x5 : Int32) (M : Mem), r28 x5 M = some (1, M') → T G (AL s) p l e room_1 s m #[Value.ref b] below meth c 9 (ce + 2) (sl + 12) (lw_Z below #[Value.ref b] s) 28 [(0, .ref b), (1, .ref (G.2.1 (9, 0, 0))), (2, .ref (G.2.1 (10, 0, 0))), (3, .ref (G.2.1 (40, 0, 0))), (4, .ref (G.2.1 (41, 0, 0))), (5, .int x5)] [] M) {x5 : Int32} {M : Mem}  (h : f_L_law_1616 xs L r28 x5 M = some (1, M')) : T G (AL s) p l e room_1 s m #[Value.ref b] below meth c 9 ce sl (lw_Z below #[Value.ref b] s) 1616 [(0, .ref b), (1, .ref (G.2.1 (9, 0, 0))), (2, .ref (G.2.1 (10, 0, 0))), (3, .ref (G.2.1 (40, 0, 0))), (4, .ref (G.2.1 (41, 0, 0))), (5, .int x5)] [] M := by
  unfold f_L_law_1616 at h
  refine r_aload_n (pc := 1616) X dL_law_1616 rfl ?_
  refine r_aload_n (pc := 1617) X dL_law_1617 rfl ?_
  refine r_iload (pc := 1618) X dL_law_1618 rfl ?_
  refine r_iconst (pc := 1620) X (v := 1) dL_law_1620 (by decide) ?_
  refine r_iadd (pc := 1621) X dL_law_1621 ?_
  refine r_sld (pc := 1622) X Z dL_law_1622 h (fun h => ?_)
  refine r_aload_n (pc := 1623) X dL_law_1623 rfl ?_
  refine r_iload (pc := 1624) X dL_law_1624 rfl ?_
  refine r_iconst (pc := 1626) X (v := 2) dL_law_1626 (by decide) ?_
  refine r_iadd (pc := 1627) X dL_law_1627 ?_
  refine r_sld (pc := 1628) X Z dL_law_1628 h (fun h => ?_)
  refine r_aload_n (pc := 1629) X dL_law_1629 rfl ?_
  refine bndE h (fun r1 M2 h3 h => ?_)
  refine r_callHS4 (pc := 1630) X Y sy_L_stored myh_L_stored ml_L_207 ⟨Nat.le_of_ble_eq_true rfl, Nat.le_of_ble_eq_true rfl, by show _ ≤ 601024; omega, by show _ ≤ 7293034; omega⟩ (fun sz => c_L_stored Y.1 hfl  h3) (Nat.le_of_ble_eq_true rfl) dL_law_1630 ?_
  refine r_istore (pc := 1633) X (by decide) dL_law_1633 ?_
  refine r_aload_n (pc := 1635) X dL_law_1635 rfl ?_
  refine r_aload_n (pc := 1636) X dL_law_1636 rfl ?_
  refine r_iload (pc := 1637) X dL_law_1637 rfl ?_
  refine r_iconst (pc := 1639) X (v := 1) dL_law_1639 (by decide) ?_
  refine r_iadd (pc := 1640) X dL_law_1640 ?_
  refine r_sld (pc := 1641) X Z dL_law_1641 h (fun h => ?_)
  refine r_aload_n (pc := 1642) X dL_law_1642 rfl ?_
  refine r_iload (pc := 1643) X dL_law_1643 rfl ?_
  refine r_iconst (pc := 1645) X (v := 2) dL_law_1645 (by decide) ?_
  refine r_iadd (pc := 1646) X dL_law_1646 ?_
  refine r_sld (pc := 1647) X Z dL_law_1647 h (fun h => ?_)
  refine bndE h (fun r4 M5 h6 h => ?_)
  refine r_callVi2 (pc := 1648) X ⟨(ltb rfl), (ltb rfl)⟩ rfl vy_X12_stored my_X12_stored ml_L_209 ⟨Nat.le_of_ble_eq_true rfl, Nat.le_of_ble_eq_true rfl, by show _ ≤ 601024; omega, by show _ ≤ 7293034; omega⟩ (c_X12_stored  h6) (Nat.le_of_ble_eq_true rfl) dL_law_1648 ?_
  refine r_istore (pc := 1651) X (by decide) dL_law_1651 ?_
  refine r_aload_n (pc := 1653) X dL_law_1653 rfl ?_
  refine bndE h (fun r7 M8 h9 h => ?_)
  refine r_callVi0 (pc := 1654) X ⟨(ltb rfl), (ltb rfl)⟩ rfl vy_X12_thrown my_X12_thrown ml_L_124 ⟨Nat.le_of_ble_eq_true rfl, Nat.le_of_ble_eq_true rfl, by show _ ≤ 601024; omega, by show _ ≤ 7293034; omega⟩ (c_X12_thrown  h9) (Nat.le_of_ble_eq_true rfl) dL_law_1654 ?_
  refine r_iload (pc := 1657) X dL_law_1657 rfl ?_
  refine r_icmp_eq (pc := 1659) X (tgt := 1664) dL_law_1659 (by decide) h (fun h => ?_) (fun h => ?_)
  · refine r_iload (pc := 1664) X dL_law_1664 rfl ?_
    refine r_if_ne (pc := 1666) X (tgt := 1681) dL_law_1666 (by decide) h (fun h => ?_) (fun h => ?_)
    · exact T_widen (k := (ce + 2)) (n := (sl + 12)) (by omega) (by omega) (T_sub (t_L_law_1681 X Y Z hr hfl (by omega) (by omega) hr28 h) ⟨rfl, rfl, rfl, rfl, rfl, rfl, trivial⟩)
    · refine r_aload_n (pc := 1669) X dL_law_1669 rfl ?_
      refine r_iconst (pc := 1670) X (v := 0) dL_law_1670 (by decide) ?_
      refine r_lald (pc := 1671) X (n := 1) ⟨(ltb rfl), (ltb rfl), hfl⟩ rfl (nlt rfl) dL_law_1671 h (fun h => ?_)
      refine r_iload (pc := 1672) X dL_law_1672 rfl ?_
      refine r_i2l (pc := 1674) X dL_law_1674 ?_
      refine r_lcmp (pc := 1675) X dL_law_1675 ?_
      refine r_if_eq (pc := 1676) X (tgt := 1681) dL_law_1676 (by decide) h (fun h => ?_) (fun h => ?_)
      · exact T_widen (k := (ce + 2)) (n := (sl + 12)) (by omega) (by omega) (T_sub (t_L_law_1681 X Y Z hr hfl (by omega) (by omega) hr28 h) ⟨rfl, rfl, rfl, rfl, rfl, rfl, trivial⟩)
      · refine r_iconst (pc := 1679) X (v := 0) dL_law_1679 (by decide) ?_
        exact ret0 h
  · refine r_iconst (pc := 1662) X (v := 0) dL_law_1662 (by decide) ?_
    exact ret0 h
def f_L_law_1684 (xs : Nat → Int32) (L : Nat) (r28 : Int32 → Mem → Option (Int32 × Mem)) (x5 : Int32) (M : Mem) : Option (Int32 × Mem) :=
  bnd (f_X11_memorySize  M) (fun r1 M2 => bnd (f_X12_memorySize  M2) (fun r4 M5 => if r1 = r4 then f_L_law_2259 xs L r28 x5 M5 else some (0, M5)))
set_option maxHeartbeats 4000000 in
set_option maxRecDepth 100000 in
theorem t_L_law_1684 {G : GG} {p : Program} {l : Launch} {e : Env} {s : State} {m : MethodId} {below : List Frame} {meth : Method} {c : Code} {b L : Nat} {xs : Nat → Int32} {M' : Mem} (X : Cx G (AL s) p s m #[Value.ref b] meth c RL cL_law 9) (Y : CxH G (AL s) l s) (Z : CxL (AL s) s b L xs) (hr : meth.sig.returnType = ret) (hfl : G.2.2.2.2 = true) {ce sl : Nat} (hce : ce + 2 ≤ 601024) (hsl : sl + 12 ≤ 7293034) {r28 : Int32 → Mem → Option (Int32 × Mem)} (hr28 : ∀ (x5 : Int32) (M : Mem), r28 x5 M = some (1, M') → T G (AL s) p l e room_1 s m #[Value.ref b] below meth c 9 (ce + 2) (sl + 12) (lw_Z below #[Value.ref b] s) 28 [(0, .ref b), (1, .ref (G.2.1 (9, 0, 0))), (2, .ref (G.2.1 (10, 0, 0))), (3, .ref (G.2.1 (40, 0, 0))), (4, .ref (G.2.1 (41, 0, 0))), (5, .int x5)] [] M) {x5 : Int32} {M : Mem}  (h : f_L_law_1684 xs L r28 x5 M = some (1, M')) : T G (AL s) p l e room_1 s m #[Value.ref b] below meth c 9 ce sl (lw_Z below #[Value.ref b] s) 1684 [(0, .ref b), (1, .ref (G.2.1 (9, 0, 0))), (2, .ref (G.2.1 (10, 0, 0))), (3, .ref (G.2.1 (40, 0, 0))), (4, .ref (G.2.1 (41, 0, 0))), (5, .int x5)] [] M := by
  unfold f_L_law_1684 at h
  refine r_aload_n (pc := 1684) X dL_law_1684 rfl ?_
  refine bndE h (fun r1 M2 h3 h => ?_)
  refine r_callVi0 (pc := 1685) X ⟨(ltb rfl), (ltb rfl)⟩ rfl vy_X11_memorySize my_X11_memorySize ml_L_210 ⟨Nat.le_of_ble_eq_true rfl, Nat.le_of_ble_eq_true rfl, by show _ ≤ 601024; omega, by show _ ≤ 7293034; omega⟩ (c_X11_memorySize  h3) (Nat.le_of_ble_eq_true rfl) dL_law_1685 ?_
  refine r_aload_n (pc := 1688) X dL_law_1688 rfl ?_
  refine bndE h (fun r4 M5 h6 h => ?_)
  refine r_callVi0 (pc := 1689) X ⟨(ltb rfl), (ltb rfl)⟩ rfl vy_X12_memorySize my_X12_memorySize ml_L_213 ⟨Nat.le_of_ble_eq_true rfl, Nat.le_of_ble_eq_true rfl, by show _ ≤ 601024; omega, by show _ ≤ 7293034; omega⟩ (c_X12_memorySize  h6) (Nat.le_of_ble_eq_true rfl) dL_law_1689 ?_
  refine r_icmp_eq (pc := 1692) X (tgt := 2259) dL_law_1692 (by decide) h (fun h => ?_) (fun h => ?_)
  · exact T_widen (k := (ce + 2)) (n := (sl + 12)) (by omega) (by omega) (T_sub (t_L_law_2259 X Y Z hr hfl (by omega) (by omega) hr28 h) ⟨rfl, rfl, rfl, rfl, rfl, rfl, trivial⟩)
  · refine r_iconst (pc := 1695) X (v := 0) dL_law_1695 (by decide) ?_
    exact ret0 h
def f_L_law_1762 (xs : Nat → Int32) (L : Nat) (r28 : Int32 → Mem → Option (Int32 × Mem)) (x5 : Int32) (M : Mem) : Option (Int32 × Mem) :=
  f_L_law_2259 xs L r28 x5 M
set_option maxHeartbeats 4000000 in
set_option maxRecDepth 100000 in
theorem t_L_law_1762 {G : GG} {p : Program} {l : Launch} {e : Env} {s : State} {m : MethodId} {below : List Frame} {meth : Method} {c : Code} {b L : Nat} {xs : Nat → Int32} {M' : Mem} (X : Cx G (AL s) p s m #[Value.ref b] meth c RL cL_law 9) (Y : CxH G (AL s) l s) (Z : CxL (AL s) s b L xs) (hr : meth.sig.returnType = ret) (hfl : G.2.2.2.2 = true) {ce sl : Nat} (hce : ce + 2 ≤ 601024) (hsl : sl + 12 ≤ 7293034) {r28 : Int32 → Mem → Option (Int32 × Mem)} (hr28 : ∀ (x5 : Int32) (M : Mem), r28 x5 M = some (1, M') → T G (AL s) p l e room_1 s m #[Value.ref b] below meth c 9 (ce + 2) (sl + 12) (lw_Z below #[Value.ref b] s) 28 [(0, .ref b), (1, .ref (G.2.1 (9, 0, 0))), (2, .ref (G.2.1 (10, 0, 0))), (3, .ref (G.2.1 (40, 0, 0))), (4, .ref (G.2.1 (41, 0, 0))), (5, .int x5)] [] M) {x5 : Int32} {M : Mem}  (h : f_L_law_1762 xs L r28 x5 M = some (1, M')) : T G (AL s) p l e room_1 s m #[Value.ref b] below meth c 9 (ce + 2) (sl + 12) (lw_Z below #[Value.ref b] s) 1762 [(0, .ref b), (1, .ref (G.2.1 (9, 0, 0))), (2, .ref (G.2.1 (10, 0, 0))), (3, .ref (G.2.1 (40, 0, 0))), (4, .ref (G.2.1 (41, 0, 0))), (5, .int x5)] [] M := by
  unfold f_L_law_1762 at h
  refine r_goto (pc := 1762) X (tgt := 2259) dL_law_1762 (by decide) ?_
  exact T_widen (k := (ce + 2)) (n := (sl + 12)) (by omega) (by omega) (T_sub (t_L_law_2259 X Y Z hr hfl (by omega) (by omega) hr28 h) ⟨rfl, rfl, rfl, rfl, rfl, rfl, trivial⟩)
def f_L_law_1697 (xs : Nat → Int32) (L : Nat) (r28 : Int32 → Mem → Option (Int32 × Mem)) (x5 : Int32) (M : Mem) : Option (Int32 × Mem) :=
  if bad (x5 + 1) L then none else if bad (x5 + 2) L then none else bnd (f_L_injected (xs (Int32.toNatClampNeg (x5 + 1))) (xs (Int32.toNatClampNeg (x5 + 2))) M) (fun r1 M2 => if bad (x5 + 1) L then none else if bad (x5 + 2) L then none else bnd (f_X12_injected (xs (Int32.toNatClampNeg (x5 + 1))) (xs (Int32.toNatClampNeg (x5 + 2))) M2) (fun r4 M5 => bnd (f_X12_thrown  M5) (fun r7 M8 => if r7 = r1 then if r1 = 0 then if bad 0 1 then none else if (lg_cmp (M8.2.1 (40, 0, 0) (Int32.toNatClampNeg 0)) (Int32.toInt64 r4)) = 0 then f_L_law_1762 xs L r28 x5 M8 else some (0, M8) else f_L_law_1762 xs L r28 x5 M8 else some (0, M8))))
set_option maxHeartbeats 4000000 in
set_option maxRecDepth 100000 in
theorem t_L_law_1697 {G : GG} {p : Program} {l : Launch} {e : Env} {s : State} {m : MethodId} {below : List Frame} {meth : Method} {c : Code} {b L : Nat} {xs : Nat → Int32} {M' : Mem} (X : Cx G (AL s) p s m #[Value.ref b] meth c RL cL_law 9) (Y : CxH G (AL s) l s) (Z : CxL (AL s) s b L xs) (hr : meth.sig.returnType = ret) (hfl : G.2.2.2.2 = true) {ce sl : Nat} (hce : ce + 2 ≤ 601024) (hsl : sl + 12 ≤ 7293034) {r28 : Int32 → Mem → Option (Int32 × Mem)} (hr28 : ∀ (x5 : Int32) (M : Mem), r28 x5 M = some (1, M') → T G (AL s) p l e room_1 s m #[Value.ref b] below meth c 9 (ce + 2) (sl + 12) (lw_Z below #[Value.ref b] s) 28 [(0, .ref b), (1, .ref (G.2.1 (9, 0, 0))), (2, .ref (G.2.1 (10, 0, 0))), (3, .ref (G.2.1 (40, 0, 0))), (4, .ref (G.2.1 (41, 0, 0))), (5, .int x5)] [] M) {x5 : Int32} {M : Mem}  (h : f_L_law_1697 xs L r28 x5 M = some (1, M')) : T G (AL s) p l e room_1 s m #[Value.ref b] below meth c 9 ce sl (lw_Z below #[Value.ref b] s) 1697 [(0, .ref b), (1, .ref (G.2.1 (9, 0, 0))), (2, .ref (G.2.1 (10, 0, 0))), (3, .ref (G.2.1 (40, 0, 0))), (4, .ref (G.2.1 (41, 0, 0))), (5, .int x5)] [] M := by
  unfold f_L_law_1697 at h
  refine r_aload_n (pc := 1697) X dL_law_1697 rfl ?_
  refine r_aload_n (pc := 1698) X dL_law_1698 rfl ?_
  refine r_iload (pc := 1699) X dL_law_1699 rfl ?_
  refine r_iconst (pc := 1701) X (v := 1) dL_law_1701 (by decide) ?_
  refine r_iadd (pc := 1702) X dL_law_1702 ?_
  refine r_sld (pc := 1703) X Z dL_law_1703 h (fun h => ?_)
  refine r_aload_n (pc := 1704) X dL_law_1704 rfl ?_
  refine r_iload (pc := 1705) X dL_law_1705 rfl ?_
  refine r_iconst (pc := 1707) X (v := 2) dL_law_1707 (by decide) ?_
  refine r_iadd (pc := 1708) X dL_law_1708 ?_
  refine r_sld (pc := 1709) X Z dL_law_1709 h (fun h => ?_)
  refine r_aload_n (pc := 1710) X dL_law_1710 rfl ?_
  refine bndE h (fun r1 M2 h3 h => ?_)
  refine r_callHS4 (pc := 1711) X Y sy_L_injected myh_L_injected ml_L_214 ⟨Nat.le_of_ble_eq_true rfl, Nat.le_of_ble_eq_true rfl, by show _ ≤ 601024; omega, by show _ ≤ 7293034; omega⟩ (fun sz => c_L_injected Y.1 hfl  h3) (Nat.le_of_ble_eq_true rfl) dL_law_1711 ?_
  refine r_istore (pc := 1714) X (by decide) dL_law_1714 ?_
  refine r_aload_n (pc := 1716) X dL_law_1716 rfl ?_
  refine r_aload_n (pc := 1717) X dL_law_1717 rfl ?_
  refine r_iload (pc := 1718) X dL_law_1718 rfl ?_
  refine r_iconst (pc := 1720) X (v := 1) dL_law_1720 (by decide) ?_
  refine r_iadd (pc := 1721) X dL_law_1721 ?_
  refine r_sld (pc := 1722) X Z dL_law_1722 h (fun h => ?_)
  refine r_aload_n (pc := 1723) X dL_law_1723 rfl ?_
  refine r_iload (pc := 1724) X dL_law_1724 rfl ?_
  refine r_iconst (pc := 1726) X (v := 2) dL_law_1726 (by decide) ?_
  refine r_iadd (pc := 1727) X dL_law_1727 ?_
  refine r_sld (pc := 1728) X Z dL_law_1728 h (fun h => ?_)
  refine bndE h (fun r4 M5 h6 h => ?_)
  refine r_callVi2 (pc := 1729) X ⟨(ltb rfl), (ltb rfl)⟩ rfl vy_X12_injected my_X12_injected ml_L_216 ⟨Nat.le_of_ble_eq_true rfl, Nat.le_of_ble_eq_true rfl, by show _ ≤ 601024; omega, by show _ ≤ 7293034; omega⟩ (c_X12_injected  h6) (Nat.le_of_ble_eq_true rfl) dL_law_1729 ?_
  refine r_istore (pc := 1732) X (by decide) dL_law_1732 ?_
  refine r_aload_n (pc := 1734) X dL_law_1734 rfl ?_
  refine bndE h (fun r7 M8 h9 h => ?_)
  refine r_callVi0 (pc := 1735) X ⟨(ltb rfl), (ltb rfl)⟩ rfl vy_X12_thrown my_X12_thrown ml_L_124 ⟨Nat.le_of_ble_eq_true rfl, Nat.le_of_ble_eq_true rfl, by show _ ≤ 601024; omega, by show _ ≤ 7293034; omega⟩ (c_X12_thrown  h9) (Nat.le_of_ble_eq_true rfl) dL_law_1735 ?_
  refine r_iload (pc := 1738) X dL_law_1738 rfl ?_
  refine r_icmp_eq (pc := 1740) X (tgt := 1745) dL_law_1740 (by decide) h (fun h => ?_) (fun h => ?_)
  · refine r_iload (pc := 1745) X dL_law_1745 rfl ?_
    refine r_if_ne (pc := 1747) X (tgt := 1762) dL_law_1747 (by decide) h (fun h => ?_) (fun h => ?_)
    · exact T_widen (k := (ce + 2)) (n := (sl + 12)) (by omega) (by omega) (T_sub (t_L_law_1762 X Y Z hr hfl (by omega) (by omega) hr28 h) ⟨rfl, rfl, rfl, rfl, rfl, rfl, trivial⟩)
    · refine r_aload_n (pc := 1750) X dL_law_1750 rfl ?_
      refine r_iconst (pc := 1751) X (v := 0) dL_law_1751 (by decide) ?_
      refine r_lald (pc := 1752) X (n := 1) ⟨(ltb rfl), (ltb rfl), hfl⟩ rfl (nlt rfl) dL_law_1752 h (fun h => ?_)
      refine r_iload (pc := 1753) X dL_law_1753 rfl ?_
      refine r_i2l (pc := 1755) X dL_law_1755 ?_
      refine r_lcmp (pc := 1756) X dL_law_1756 ?_
      refine r_if_eq (pc := 1757) X (tgt := 1762) dL_law_1757 (by decide) h (fun h => ?_) (fun h => ?_)
      · exact T_widen (k := (ce + 2)) (n := (sl + 12)) (by omega) (by omega) (T_sub (t_L_law_1762 X Y Z hr hfl (by omega) (by omega) hr28 h) ⟨rfl, rfl, rfl, rfl, rfl, rfl, trivial⟩)
      · refine r_iconst (pc := 1760) X (v := 0) dL_law_1760 (by decide) ?_
        exact ret0 h
  · refine r_iconst (pc := 1743) X (v := 0) dL_law_1743 (by decide) ?_
    exact ret0 h
def f_L_law_1855 (xs : Nat → Int32) (L : Nat) (r28 : Int32 → Mem → Option (Int32 × Mem)) (x5 : Int32) (M : Mem) : Option (Int32 × Mem) :=
  f_L_law_2259 xs L r28 x5 M
set_option maxHeartbeats 4000000 in
set_option maxRecDepth 100000 in
theorem t_L_law_1855 {G : GG} {p : Program} {l : Launch} {e : Env} {s : State} {m : MethodId} {below : List Frame} {meth : Method} {c : Code} {b L : Nat} {xs : Nat → Int32} {M' : Mem} (X : Cx G (AL s) p s m #[Value.ref b] meth c RL cL_law 9) (Y : CxH G (AL s) l s) (Z : CxL (AL s) s b L xs) (hr : meth.sig.returnType = ret) (hfl : G.2.2.2.2 = true) {ce sl : Nat} (hce : ce + 2 ≤ 601024) (hsl : sl + 12 ≤ 7293034) {r28 : Int32 → Mem → Option (Int32 × Mem)} (hr28 : ∀ (x5 : Int32) (M : Mem), r28 x5 M = some (1, M') → T G (AL s) p l e room_1 s m #[Value.ref b] below meth c 9 (ce + 2) (sl + 12) (lw_Z below #[Value.ref b] s) 28 [(0, .ref b), (1, .ref (G.2.1 (9, 0, 0))), (2, .ref (G.2.1 (10, 0, 0))), (3, .ref (G.2.1 (40, 0, 0))), (4, .ref (G.2.1 (41, 0, 0))), (5, .int x5)] [] M) {x5 : Int32} {M : Mem}  (h : f_L_law_1855 xs L r28 x5 M = some (1, M')) : T G (AL s) p l e room_1 s m #[Value.ref b] below meth c 9 (ce + 1) (sl + 6) (lw_Z below #[Value.ref b] s) 1855 [(0, .ref b), (1, .ref (G.2.1 (9, 0, 0))), (2, .ref (G.2.1 (10, 0, 0))), (3, .ref (G.2.1 (40, 0, 0))), (4, .ref (G.2.1 (41, 0, 0))), (5, .int x5)] [] M := by
  unfold f_L_law_1855 at h
  refine r_goto (pc := 1855) X (tgt := 2259) dL_law_1855 (by decide) ?_
  exact T_widen (k := (ce + 2)) (n := (sl + 12)) (by omega) (by omega) (T_sub (t_L_law_2259 X Y Z hr hfl (by omega) (by omega) hr28 h) ⟨rfl, rfl, rfl, rfl, rfl, rfl, trivial⟩)
def f_L_law_1802 (xs : Nat → Int32) (L : Nat) (r28 : Int32 → Mem → Option (Int32 × Mem)) (x5 : Int32) (x6 : Int32) (xs0 : Int32) (M : Mem) : Option (Int32 × Mem) :=
  bnd (f_X12_latency xs0 M) (fun r1 M2 => bnd (f_X12_thrown  M2) (fun r4 M5 => if r4 = x6 then if x6 = 0 then if bad 0 1 then none else if (Op.cmpValue (FP.dcmp (M5.2.2 (41, 0, 0) (Int32.toNatClampNeg 0)) r1) CmpOp.l) = 0 then f_L_law_1855 xs L r28 x5 M5 else if bad 0 1 then none else if bad 0 1 then none else if (Op.cmpValue (FP.dcmp (M5.2.2 (41, 0, 0) (Int32.toNatClampNeg 0)) (M5.2.2 (41, 0, 0) (Int32.toNatClampNeg 0))) CmpOp.l) = 0 then some (0, M5) else if (Op.cmpValue (FP.dcmp r1 r1) CmpOp.l) = 0 then some (0, M5) else f_L_law_1855 xs L r28 x5 M5 else f_L_law_1855 xs L r28 x5 M5 else some (0, M5)))
set_option maxHeartbeats 4000000 in
set_option maxRecDepth 100000 in
theorem t_L_law_1802 {G : GG} {p : Program} {l : Launch} {e : Env} {s : State} {m : MethodId} {below : List Frame} {meth : Method} {c : Code} {b L : Nat} {xs : Nat → Int32} {M' : Mem} (X : Cx G (AL s) p s m #[Value.ref b] meth c RL cL_law 9) (Y : CxH G (AL s) l s) (Z : CxL (AL s) s b L xs) (hr : meth.sig.returnType = ret) (hfl : G.2.2.2.2 = true) {ce sl : Nat} (hce : ce + 2 ≤ 601024) (hsl : sl + 12 ≤ 7293034) {r28 : Int32 → Mem → Option (Int32 × Mem)} (hr28 : ∀ (x5 : Int32) (M : Mem), r28 x5 M = some (1, M') → T G (AL s) p l e room_1 s m #[Value.ref b] below meth c 9 (ce + 2) (sl + 12) (lw_Z below #[Value.ref b] s) 28 [(0, .ref b), (1, .ref (G.2.1 (9, 0, 0))), (2, .ref (G.2.1 (10, 0, 0))), (3, .ref (G.2.1 (40, 0, 0))), (4, .ref (G.2.1 (41, 0, 0))), (5, .int x5)] [] M) {x5 : Int32} {x6 : Int32} {xs0 : Int32} {M : Mem}  (h : f_L_law_1802 xs L r28 x5 x6 xs0 M = some (1, M')) : T G (AL s) p l e room_1 s m #[Value.ref b] below meth c 9 (ce + 1) (sl + 6) (lw_Z below #[Value.ref b] s) 1802 [(0, .ref b), (1, .ref (G.2.1 (9, 0, 0))), (2, .ref (G.2.1 (10, 0, 0))), (3, .ref (G.2.1 (40, 0, 0))), (4, .ref (G.2.1 (41, 0, 0))), (5, .int x5), (6, .int x6)] [.int xs0, .ref (G.2.1 (10, 0, 0))] M := by
  unfold f_L_law_1802 at h
  refine bndE h (fun r1 M2 h3 h => ?_)
  refine r_callVd1 (pc := 1802) X ⟨(ltb rfl), (ltb rfl)⟩ rfl vy_X12_latency my_X12_latency ml_L_220 ⟨Nat.le_of_ble_eq_true rfl, Nat.le_of_ble_eq_true rfl, by show _ ≤ 601024; omega, by show _ ≤ 7293034; omega⟩ (c_X12_latency  h3) (Nat.le_of_ble_eq_true rfl) dL_law_1802 ?_
  refine r_dstore (pc := 1805) X (by decide) dL_law_1805 ?_
  refine r_aload_n (pc := 1807) X dL_law_1807 rfl ?_
  refine bndE h (fun r4 M5 h6 h => ?_)
  refine r_callVi0 (pc := 1808) X ⟨(ltb rfl), (ltb rfl)⟩ rfl vy_X12_thrown my_X12_thrown ml_L_124 ⟨Nat.le_of_ble_eq_true rfl, Nat.le_of_ble_eq_true rfl, by show _ ≤ 601024; omega, by show _ ≤ 7293034; omega⟩ (c_X12_thrown  h6) (Nat.le_of_ble_eq_true rfl) dL_law_1808 ?_
  refine r_iload (pc := 1811) X dL_law_1811 rfl ?_
  refine r_icmp_eq (pc := 1813) X (tgt := 1818) dL_law_1813 (by decide) h (fun h => ?_) (fun h => ?_)
  · refine r_iload (pc := 1818) X dL_law_1818 rfl ?_
    refine r_if_ne (pc := 1820) X (tgt := 1855) dL_law_1820 (by decide) h (fun h => ?_) (fun h => ?_)
    · exact T_widen (k := (ce + 1)) (n := (sl + 6)) (by omega) (by omega) (T_sub (t_L_law_1855 X Y Z hr hfl (by omega) (by omega) hr28 h) ⟨rfl, rfl, rfl, rfl, rfl, rfl, trivial⟩)
    · refine r_aload (pc := 1823) X dL_law_1823 rfl ?_
      refine r_iconst (pc := 1825) X (v := 0) dL_law_1825 (by decide) ?_
      refine r_dald (pc := 1826) X (n := 1) ⟨(ltb rfl), (ltb rfl), hfl⟩ rfl (nlt rfl) dL_law_1826 h (fun h => ?_)
      refine r_dload (pc := 1827) X dL_law_1827 rfl ?_
      refine r_dcmp (pc := 1829) X dL_law_1829 ?_
      refine r_if_eq (pc := 1830) X (tgt := 1855) dL_law_1830 (by decide) h (fun h => ?_) (fun h => ?_)
      · exact T_widen (k := (ce + 1)) (n := (sl + 6)) (by omega) (by omega) (T_sub (t_L_law_1855 X Y Z hr hfl (by omega) (by omega) hr28 h) ⟨rfl, rfl, rfl, rfl, rfl, rfl, trivial⟩)
      · refine r_aload (pc := 1833) X dL_law_1833 rfl ?_
        refine r_iconst (pc := 1835) X (v := 0) dL_law_1835 (by decide) ?_
        refine r_dald (pc := 1836) X (n := 1) ⟨(ltb rfl), (ltb rfl), hfl⟩ rfl (nlt rfl) dL_law_1836 h (fun h => ?_)
        refine r_aload (pc := 1837) X dL_law_1837 rfl ?_
        refine r_iconst (pc := 1839) X (v := 0) dL_law_1839 (by decide) ?_
        refine r_dald (pc := 1840) X (n := 1) ⟨(ltb rfl), (ltb rfl), hfl⟩ rfl (nlt rfl) dL_law_1840 h (fun h => ?_)
        refine r_dcmp (pc := 1841) X dL_law_1841 ?_
        refine r_if_eq (pc := 1842) X (tgt := 1853) dL_law_1842 (by decide) h (fun h => ?_) (fun h => ?_)
        · refine r_iconst (pc := 1853) X (v := 0) dL_law_1853 (by decide) ?_
          exact ret0 h
        · refine r_dload (pc := 1845) X dL_law_1845 rfl ?_
          refine r_dload (pc := 1847) X dL_law_1847 rfl ?_
          refine r_dcmp (pc := 1849) X dL_law_1849 ?_
          refine r_if_ne (pc := 1850) X (tgt := 1855) dL_law_1850 (by decide) h (fun h => ?_) (fun h => ?_)
          · exact T_widen (k := (ce + 1)) (n := (sl + 6)) (by omega) (by omega) (T_sub (t_L_law_1855 X Y Z hr hfl (by omega) (by omega) hr28 h) ⟨rfl, rfl, rfl, rfl, rfl, rfl, trivial⟩)
          · refine r_iconst (pc := 1853) X (v := 0) dL_law_1853 (by decide) ?_
            exact ret0 h
  · refine r_iconst (pc := 1816) X (v := 0) dL_law_1816 (by decide) ?_
    exact ret0 h
def f_L_law_1780 (xs : Nat → Int32) (L : Nat) (r28 : Int32 → Mem → Option (Int32 × Mem)) (x5 : Int32) (xs0 : Int32) (M : Mem) : Option (Int32 × Mem) :=
  bnd (f_L_latency xs0 M) (fun r1 M2 => if bad (x5 + 1) L then none else if (xs (Int32.toNatClampNeg (x5 + 1))) = 0 then f_L_law_1802 xs L r28 x5 r1 0 M2 else f_L_law_1802 xs L r28 x5 r1 1 M2)
set_option maxHeartbeats 4000000 in
set_option maxRecDepth 100000 in
theorem t_L_law_1780 {G : GG} {p : Program} {l : Launch} {e : Env} {s : State} {m : MethodId} {below : List Frame} {meth : Method} {c : Code} {b L : Nat} {xs : Nat → Int32} {M' : Mem} (X : Cx G (AL s) p s m #[Value.ref b] meth c RL cL_law 9) (Y : CxH G (AL s) l s) (Z : CxL (AL s) s b L xs) (hr : meth.sig.returnType = ret) (hfl : G.2.2.2.2 = true) {ce sl : Nat} (hce : ce + 2 ≤ 601024) (hsl : sl + 12 ≤ 7293034) {r28 : Int32 → Mem → Option (Int32 × Mem)} (hr28 : ∀ (x5 : Int32) (M : Mem), r28 x5 M = some (1, M') → T G (AL s) p l e room_1 s m #[Value.ref b] below meth c 9 (ce + 2) (sl + 12) (lw_Z below #[Value.ref b] s) 28 [(0, .ref b), (1, .ref (G.2.1 (9, 0, 0))), (2, .ref (G.2.1 (10, 0, 0))), (3, .ref (G.2.1 (40, 0, 0))), (4, .ref (G.2.1 (41, 0, 0))), (5, .int x5)] [] M) {x5 : Int32} {xs0 : Int32} {M : Mem}  (h : f_L_law_1780 xs L r28 x5 xs0 M = some (1, M')) : T G (AL s) p l e room_1 s m #[Value.ref b] below meth c 9 ce sl (lw_Z below #[Value.ref b] s) 1780 [(0, .ref b), (1, .ref (G.2.1 (9, 0, 0))), (2, .ref (G.2.1 (10, 0, 0))), (3, .ref (G.2.1 (40, 0, 0))), (4, .ref (G.2.1 (41, 0, 0))), (5, .int x5)] [.int xs0, .ref (G.2.1 (9, 0, 0))] M := by
  unfold f_L_law_1780 at h
  refine r_aload (pc := 1780) X dL_law_1780 rfl ?_
  refine bndE h (fun r1 M2 h3 h => ?_)
  refine r_callHS3 (pc := 1782) X Y sy_L_latency myh_L_latency ml_L_217 ⟨Nat.le_of_ble_eq_true rfl, Nat.le_of_ble_eq_true rfl, by show _ ≤ 601024; omega, by show _ ≤ 7293034; omega⟩ (fun sz => c_L_latency Y.1 hfl  h3) (Nat.le_of_ble_eq_true rfl) dL_law_1782 ?_
  refine r_istore (pc := 1785) X (by decide) dL_law_1785 ?_
  refine r_aload_n (pc := 1787) X dL_law_1787 rfl ?_
  refine r_aload_n (pc := 1788) X dL_law_1788 rfl ?_
  refine r_iload (pc := 1789) X dL_law_1789 rfl ?_
  refine r_iconst (pc := 1791) X (v := 1) dL_law_1791 (by decide) ?_
  refine r_iadd (pc := 1792) X dL_law_1792 ?_
  refine r_sld (pc := 1793) X Z dL_law_1793 h (fun h => ?_)
  refine r_if_eq (pc := 1794) X (tgt := 1801) dL_law_1794 (by decide) h (fun h => ?_) (fun h => ?_)
  · refine r_iconst (pc := 1801) X (v := 0) dL_law_1801 (by decide) ?_
    exact T_widen (k := (ce + 1)) (n := (sl + 6)) (by omega) (by omega) (T_sub (t_L_law_1802 X Y Z hr hfl (by omega) (by omega) hr28 h) ⟨rfl, rfl, rfl, rfl, rfl, rfl, rfl, trivial⟩)
  · refine r_iconst (pc := 1797) X (v := 1) dL_law_1797 (by decide) ?_
    refine r_goto (pc := 1798) X (tgt := 1802) dL_law_1798 (by decide) ?_
    exact T_widen (k := (ce + 1)) (n := (sl + 6)) (by omega) (by omega) (T_sub (t_L_law_1802 X Y Z hr hfl (by omega) (by omega) hr28 h) ⟨rfl, rfl, rfl, rfl, rfl, rfl, rfl, trivial⟩)
def f_L_law_1765 (xs : Nat → Int32) (L : Nat) (r28 : Int32 → Mem → Option (Int32 × Mem)) (x5 : Int32) (M : Mem) : Option (Int32 × Mem) :=
  if bad (x5 + 1) L then none else if (xs (Int32.toNatClampNeg (x5 + 1))) = 0 then f_L_law_1780 xs L r28 x5 0 M else f_L_law_1780 xs L r28 x5 1 M
set_option maxHeartbeats 4000000 in
set_option maxRecDepth 100000 in
theorem t_L_law_1765 {G : GG} {p : Program} {l : Launch} {e : Env} {s : State} {m : MethodId} {below : List Frame} {meth : Method} {c : Code} {b L : Nat} {xs : Nat → Int32} {M' : Mem} (X : Cx G (AL s) p s m #[Value.ref b] meth c RL cL_law 9) (Y : CxH G (AL s) l s) (Z : CxL (AL s) s b L xs) (hr : meth.sig.returnType = ret) (hfl : G.2.2.2.2 = true) {ce sl : Nat} (hce : ce + 2 ≤ 601024) (hsl : sl + 12 ≤ 7293034) {r28 : Int32 → Mem → Option (Int32 × Mem)} (hr28 : ∀ (x5 : Int32) (M : Mem), r28 x5 M = some (1, M') → T G (AL s) p l e room_1 s m #[Value.ref b] below meth c 9 (ce + 2) (sl + 12) (lw_Z below #[Value.ref b] s) 28 [(0, .ref b), (1, .ref (G.2.1 (9, 0, 0))), (2, .ref (G.2.1 (10, 0, 0))), (3, .ref (G.2.1 (40, 0, 0))), (4, .ref (G.2.1 (41, 0, 0))), (5, .int x5)] [] M) {x5 : Int32} {M : Mem}  (h : f_L_law_1765 xs L r28 x5 M = some (1, M')) : T G (AL s) p l e room_1 s m #[Value.ref b] below meth c 9 ce sl (lw_Z below #[Value.ref b] s) 1765 [(0, .ref b), (1, .ref (G.2.1 (9, 0, 0))), (2, .ref (G.2.1 (10, 0, 0))), (3, .ref (G.2.1 (40, 0, 0))), (4, .ref (G.2.1 (41, 0, 0))), (5, .int x5)] [] M := by
  unfold f_L_law_1765 at h
  refine r_aload_n (pc := 1765) X dL_law_1765 rfl ?_
  refine r_aload_n (pc := 1766) X dL_law_1766 rfl ?_
  refine r_iload (pc := 1767) X dL_law_1767 rfl ?_
  refine r_iconst (pc := 1769) X (v := 1) dL_law_1769 (by decide) ?_
  refine r_iadd (pc := 1770) X dL_law_1770 ?_
  refine r_sld (pc := 1771) X Z dL_law_1771 h (fun h => ?_)
  refine r_if_eq (pc := 1772) X (tgt := 1779) dL_law_1772 (by decide) h (fun h => ?_) (fun h => ?_)
  · refine r_iconst (pc := 1779) X (v := 0) dL_law_1779 (by decide) ?_
    exact T_widen (k := ce) (n := sl) (by omega) (by omega) (T_sub (t_L_law_1780 X Y Z hr hfl (by omega) (by omega) hr28 h) ⟨rfl, rfl, rfl, rfl, rfl, rfl, trivial⟩)
  · refine r_iconst (pc := 1775) X (v := 1) dL_law_1775 (by decide) ?_
    refine r_goto (pc := 1776) X (tgt := 1780) dL_law_1776 (by decide) ?_
    exact T_widen (k := ce) (n := sl) (by omega) (by omega) (T_sub (t_L_law_1780 X Y Z hr hfl (by omega) (by omega) hr28 h) ⟨rfl, rfl, rfl, rfl, rfl, rfl, trivial⟩)
def f_L_law_1911 (xs : Nat → Int32) (L : Nat) (r28 : Int32 → Mem → Option (Int32 × Mem)) (x5 : Int32) (M : Mem) : Option (Int32 × Mem) :=
  f_L_law_2259 xs L r28 x5 M
set_option maxHeartbeats 4000000 in
set_option maxRecDepth 100000 in
theorem t_L_law_1911 {G : GG} {p : Program} {l : Launch} {e : Env} {s : State} {m : MethodId} {below : List Frame} {meth : Method} {c : Code} {b L : Nat} {xs : Nat → Int32} {M' : Mem} (X : Cx G (AL s) p s m #[Value.ref b] meth c RL cL_law 9) (Y : CxH G (AL s) l s) (Z : CxL (AL s) s b L xs) (hr : meth.sig.returnType = ret) (hfl : G.2.2.2.2 = true) {ce sl : Nat} (hce : ce + 2 ≤ 601024) (hsl : sl + 12 ≤ 7293034) {r28 : Int32 → Mem → Option (Int32 × Mem)} (hr28 : ∀ (x5 : Int32) (M : Mem), r28 x5 M = some (1, M') → T G (AL s) p l e room_1 s m #[Value.ref b] below meth c 9 (ce + 2) (sl + 12) (lw_Z below #[Value.ref b] s) 28 [(0, .ref b), (1, .ref (G.2.1 (9, 0, 0))), (2, .ref (G.2.1 (10, 0, 0))), (3, .ref (G.2.1 (40, 0, 0))), (4, .ref (G.2.1 (41, 0, 0))), (5, .int x5)] [] M) {x5 : Int32} {M : Mem}  (h : f_L_law_1911 xs L r28 x5 M = some (1, M')) : T G (AL s) p l e room_1 s m #[Value.ref b] below meth c 9 (ce + 1) (sl + 6) (lw_Z below #[Value.ref b] s) 1911 [(0, .ref b), (1, .ref (G.2.1 (9, 0, 0))), (2, .ref (G.2.1 (10, 0, 0))), (3, .ref (G.2.1 (40, 0, 0))), (4, .ref (G.2.1 (41, 0, 0))), (5, .int x5)] [] M := by
  unfold f_L_law_1911 at h
  refine r_goto (pc := 1911) X (tgt := 2259) dL_law_1911 (by decide) ?_
  exact T_widen (k := (ce + 2)) (n := (sl + 12)) (by omega) (by omega) (T_sub (t_L_law_2259 X Y Z hr hfl (by omega) (by omega) hr28 h) ⟨rfl, rfl, rfl, rfl, rfl, rfl, trivial⟩)
def f_L_law_1858 (xs : Nat → Int32) (L : Nat) (r28 : Int32 → Mem → Option (Int32 × Mem)) (x5 : Int32) (M : Mem) : Option (Int32 × Mem) :=
  if bad (x5 + 1) L then none else bnd (f_L_nextResult (xs (Int32.toNatClampNeg (x5 + 1))) M) (fun r1 M2 => if bad (x5 + 1) L then none else bnd (f_X12_nextResult (xs (Int32.toNatClampNeg (x5 + 1))) M2) (fun r4 M5 => bnd (f_X12_thrown  M5) (fun r7 M8 => if r7 = r1 then if r1 = 0 then if bad 0 1 then none else if (lg_cmp (M8.2.1 (40, 0, 0) (Int32.toNatClampNeg 0)) (Int32.toInt64 r4)) = 0 then f_L_law_1911 xs L r28 x5 M8 else some (0, M8) else f_L_law_1911 xs L r28 x5 M8 else some (0, M8))))
set_option maxHeartbeats 4000000 in
set_option maxRecDepth 100000 in
theorem t_L_law_1858 {G : GG} {p : Program} {l : Launch} {e : Env} {s : State} {m : MethodId} {below : List Frame} {meth : Method} {c : Code} {b L : Nat} {xs : Nat → Int32} {M' : Mem} (X : Cx G (AL s) p s m #[Value.ref b] meth c RL cL_law 9) (Y : CxH G (AL s) l s) (Z : CxL (AL s) s b L xs) (hr : meth.sig.returnType = ret) (hfl : G.2.2.2.2 = true) {ce sl : Nat} (hce : ce + 2 ≤ 601024) (hsl : sl + 12 ≤ 7293034) {r28 : Int32 → Mem → Option (Int32 × Mem)} (hr28 : ∀ (x5 : Int32) (M : Mem), r28 x5 M = some (1, M') → T G (AL s) p l e room_1 s m #[Value.ref b] below meth c 9 (ce + 2) (sl + 12) (lw_Z below #[Value.ref b] s) 28 [(0, .ref b), (1, .ref (G.2.1 (9, 0, 0))), (2, .ref (G.2.1 (10, 0, 0))), (3, .ref (G.2.1 (40, 0, 0))), (4, .ref (G.2.1 (41, 0, 0))), (5, .int x5)] [] M) {x5 : Int32} {M : Mem}  (h : f_L_law_1858 xs L r28 x5 M = some (1, M')) : T G (AL s) p l e room_1 s m #[Value.ref b] below meth c 9 ce sl (lw_Z below #[Value.ref b] s) 1858 [(0, .ref b), (1, .ref (G.2.1 (9, 0, 0))), (2, .ref (G.2.1 (10, 0, 0))), (3, .ref (G.2.1 (40, 0, 0))), (4, .ref (G.2.1 (41, 0, 0))), (5, .int x5)] [] M := by
  unfold f_L_law_1858 at h
  refine r_aload_n (pc := 1858) X dL_law_1858 rfl ?_
  refine r_aload_n (pc := 1859) X dL_law_1859 rfl ?_
  refine r_iload (pc := 1860) X dL_law_1860 rfl ?_
  refine r_iconst (pc := 1862) X (v := 1) dL_law_1862 (by decide) ?_
  refine r_iadd (pc := 1863) X dL_law_1863 ?_
  refine r_sld (pc := 1864) X Z dL_law_1864 h (fun h => ?_)
  refine r_aload_n (pc := 1865) X dL_law_1865 rfl ?_
  refine bndE h (fun r1 M2 h3 h => ?_)
  refine r_callHS3 (pc := 1866) X Y sy_L_nextResult myh_L_nextResult ml_L_221 ⟨Nat.le_of_ble_eq_true rfl, Nat.le_of_ble_eq_true rfl, by show _ ≤ 601024; omega, by show _ ≤ 7293034; omega⟩ (fun sz => c_L_nextResult Y.1 hfl  h3) (Nat.le_of_ble_eq_true rfl) dL_law_1866 ?_
  refine r_istore (pc := 1869) X (by decide) dL_law_1869 ?_
  refine r_aload_n (pc := 1871) X dL_law_1871 rfl ?_
  refine r_aload_n (pc := 1872) X dL_law_1872 rfl ?_
  refine r_iload (pc := 1873) X dL_law_1873 rfl ?_
  refine r_iconst (pc := 1875) X (v := 1) dL_law_1875 (by decide) ?_
  refine r_iadd (pc := 1876) X dL_law_1876 ?_
  refine r_sld (pc := 1877) X Z dL_law_1877 h (fun h => ?_)
  refine bndE h (fun r4 M5 h6 h => ?_)
  refine r_callVi1 (pc := 1878) X ⟨(ltb rfl), (ltb rfl)⟩ rfl vy_X12_nextResult my_X12_nextResult ml_L_223 ⟨Nat.le_of_ble_eq_true rfl, Nat.le_of_ble_eq_true rfl, by show _ ≤ 601024; omega, by show _ ≤ 7293034; omega⟩ (c_X12_nextResult  h6) (Nat.le_of_ble_eq_true rfl) dL_law_1878 ?_
  refine r_istore (pc := 1881) X (by decide) dL_law_1881 ?_
  refine r_aload_n (pc := 1883) X dL_law_1883 rfl ?_
  refine bndE h (fun r7 M8 h9 h => ?_)
  refine r_callVi0 (pc := 1884) X ⟨(ltb rfl), (ltb rfl)⟩ rfl vy_X12_thrown my_X12_thrown ml_L_124 ⟨Nat.le_of_ble_eq_true rfl, Nat.le_of_ble_eq_true rfl, by show _ ≤ 601024; omega, by show _ ≤ 7293034; omega⟩ (c_X12_thrown  h9) (Nat.le_of_ble_eq_true rfl) dL_law_1884 ?_
  refine r_iload (pc := 1887) X dL_law_1887 rfl ?_
  refine r_icmp_eq (pc := 1889) X (tgt := 1894) dL_law_1889 (by decide) h (fun h => ?_) (fun h => ?_)
  · refine r_iload (pc := 1894) X dL_law_1894 rfl ?_
    refine r_if_ne (pc := 1896) X (tgt := 1911) dL_law_1896 (by decide) h (fun h => ?_) (fun h => ?_)
    · exact T_widen (k := (ce + 1)) (n := (sl + 6)) (by omega) (by omega) (T_sub (t_L_law_1911 X Y Z hr hfl (by omega) (by omega) hr28 h) ⟨rfl, rfl, rfl, rfl, rfl, rfl, trivial⟩)
    · refine r_aload_n (pc := 1899) X dL_law_1899 rfl ?_
      refine r_iconst (pc := 1900) X (v := 0) dL_law_1900 (by decide) ?_
      refine r_lald (pc := 1901) X (n := 1) ⟨(ltb rfl), (ltb rfl), hfl⟩ rfl (nlt rfl) dL_law_1901 h (fun h => ?_)
      refine r_iload (pc := 1902) X dL_law_1902 rfl ?_
      refine r_i2l (pc := 1904) X dL_law_1904 ?_
      refine r_lcmp (pc := 1905) X dL_law_1905 ?_
      refine r_if_eq (pc := 1906) X (tgt := 1911) dL_law_1906 (by decide) h (fun h => ?_) (fun h => ?_)
      · exact T_widen (k := (ce + 1)) (n := (sl + 6)) (by omega) (by omega) (T_sub (t_L_law_1911 X Y Z hr hfl (by omega) (by omega) hr28 h) ⟨rfl, rfl, rfl, rfl, rfl, rfl, trivial⟩)
      · refine r_iconst (pc := 1909) X (v := 0) dL_law_1909 (by decide) ?_
        exact ret0 h
  · refine r_iconst (pc := 1892) X (v := 0) dL_law_1892 (by decide) ?_
    exact ret0 h
def f_L_law_1979 (xs : Nat → Int32) (L : Nat) (r28 : Int32 → Mem → Option (Int32 × Mem)) (x5 : Int32) (M : Mem) : Option (Int32 × Mem) :=
  f_L_law_2259 xs L r28 x5 M
set_option maxHeartbeats 4000000 in
set_option maxRecDepth 100000 in
theorem t_L_law_1979 {G : GG} {p : Program} {l : Launch} {e : Env} {s : State} {m : MethodId} {below : List Frame} {meth : Method} {c : Code} {b L : Nat} {xs : Nat → Int32} {M' : Mem} (X : Cx G (AL s) p s m #[Value.ref b] meth c RL cL_law 9) (Y : CxH G (AL s) l s) (Z : CxL (AL s) s b L xs) (hr : meth.sig.returnType = ret) (hfl : G.2.2.2.2 = true) {ce sl : Nat} (hce : ce + 2 ≤ 601024) (hsl : sl + 12 ≤ 7293034) {r28 : Int32 → Mem → Option (Int32 × Mem)} (hr28 : ∀ (x5 : Int32) (M : Mem), r28 x5 M = some (1, M') → T G (AL s) p l e room_1 s m #[Value.ref b] below meth c 9 (ce + 2) (sl + 12) (lw_Z below #[Value.ref b] s) 28 [(0, .ref b), (1, .ref (G.2.1 (9, 0, 0))), (2, .ref (G.2.1 (10, 0, 0))), (3, .ref (G.2.1 (40, 0, 0))), (4, .ref (G.2.1 (41, 0, 0))), (5, .int x5)] [] M) {x5 : Int32} {M : Mem}  (h : f_L_law_1979 xs L r28 x5 M = some (1, M')) : T G (AL s) p l e room_1 s m #[Value.ref b] below meth c 9 (ce + 2) (sl + 12) (lw_Z below #[Value.ref b] s) 1979 [(0, .ref b), (1, .ref (G.2.1 (9, 0, 0))), (2, .ref (G.2.1 (10, 0, 0))), (3, .ref (G.2.1 (40, 0, 0))), (4, .ref (G.2.1 (41, 0, 0))), (5, .int x5)] [] M := by
  unfold f_L_law_1979 at h
  refine r_goto (pc := 1979) X (tgt := 2259) dL_law_1979 (by decide) ?_
  exact T_widen (k := (ce + 2)) (n := (sl + 12)) (by omega) (by omega) (T_sub (t_L_law_2259 X Y Z hr hfl (by omega) (by omega) hr28 h) ⟨rfl, rfl, rfl, rfl, rfl, rfl, trivial⟩)
def f_L_law_1914 (xs : Nat → Int32) (L : Nat) (r28 : Int32 → Mem → Option (Int32 × Mem)) (x5 : Int32) (M : Mem) : Option (Int32 × Mem) :=
  if bad (x5 + 1) L then none else if bad (x5 + 2) L then none else bnd (f_L_whenRaised (xs (Int32.toNatClampNeg (x5 + 1))) (xs (Int32.toNatClampNeg (x5 + 2))) M) (fun r1 M2 => if bad (x5 + 1) L then none else if bad (x5 + 2) L then none else bnd (f_X12_whenRaised (xs (Int32.toNatClampNeg (x5 + 1))) (xs (Int32.toNatClampNeg (x5 + 2))) M2) (fun r4 M5 => bnd (f_X12_thrown  M5) (fun r7 M8 => if r7 = r1 then if r1 = 0 then if bad 0 1 then none else if (lg_cmp (M8.2.1 (40, 0, 0) (Int32.toNatClampNeg 0)) (Int32.toInt64 r4)) = 0 then f_L_law_1979 xs L r28 x5 M8 else some (0, M8) else f_L_law_1979 xs L r28 x5 M8 else some (0, M8))))
set_option maxHeartbeats 4000000 in
set_option maxRecDepth 100000 in
theorem t_L_law_1914 {G : GG} {p : Program} {l : Launch} {e : Env} {s : State} {m : MethodId} {below : List Frame} {meth : Method} {c : Code} {b L : Nat} {xs : Nat → Int32} {M' : Mem} (X : Cx G (AL s) p s m #[Value.ref b] meth c RL cL_law 9) (Y : CxH G (AL s) l s) (Z : CxL (AL s) s b L xs) (hr : meth.sig.returnType = ret) (hfl : G.2.2.2.2 = true) {ce sl : Nat} (hce : ce + 2 ≤ 601024) (hsl : sl + 12 ≤ 7293034) {r28 : Int32 → Mem → Option (Int32 × Mem)} (hr28 : ∀ (x5 : Int32) (M : Mem), r28 x5 M = some (1, M') → T G (AL s) p l e room_1 s m #[Value.ref b] below meth c 9 (ce + 2) (sl + 12) (lw_Z below #[Value.ref b] s) 28 [(0, .ref b), (1, .ref (G.2.1 (9, 0, 0))), (2, .ref (G.2.1 (10, 0, 0))), (3, .ref (G.2.1 (40, 0, 0))), (4, .ref (G.2.1 (41, 0, 0))), (5, .int x5)] [] M) {x5 : Int32} {M : Mem}  (h : f_L_law_1914 xs L r28 x5 M = some (1, M')) : T G (AL s) p l e room_1 s m #[Value.ref b] below meth c 9 ce sl (lw_Z below #[Value.ref b] s) 1914 [(0, .ref b), (1, .ref (G.2.1 (9, 0, 0))), (2, .ref (G.2.1 (10, 0, 0))), (3, .ref (G.2.1 (40, 0, 0))), (4, .ref (G.2.1 (41, 0, 0))), (5, .int x5)] [] M := by
  unfold f_L_law_1914 at h
  refine r_aload_n (pc := 1914) X dL_law_1914 rfl ?_
  refine r_aload_n (pc := 1915) X dL_law_1915 rfl ?_
  refine r_iload (pc := 1916) X dL_law_1916 rfl ?_
  refine r_iconst (pc := 1918) X (v := 1) dL_law_1918 (by decide) ?_
  refine r_iadd (pc := 1919) X dL_law_1919 ?_
  refine r_sld (pc := 1920) X Z dL_law_1920 h (fun h => ?_)
  refine r_aload_n (pc := 1921) X dL_law_1921 rfl ?_
  refine r_iload (pc := 1922) X dL_law_1922 rfl ?_
  refine r_iconst (pc := 1924) X (v := 2) dL_law_1924 (by decide) ?_
  refine r_iadd (pc := 1925) X dL_law_1925 ?_
  refine r_sld (pc := 1926) X Z dL_law_1926 h (fun h => ?_)
  refine r_aload_n (pc := 1927) X dL_law_1927 rfl ?_
  refine bndE h (fun r1 M2 h3 h => ?_)
  refine r_callHS4 (pc := 1928) X Y sy_L_whenRaised myh_L_whenRaised ml_L_224 ⟨Nat.le_of_ble_eq_true rfl, Nat.le_of_ble_eq_true rfl, by show _ ≤ 601024; omega, by show _ ≤ 7293034; omega⟩ (fun sz => c_L_whenRaised Y.1 hfl  h3) (Nat.le_of_ble_eq_true rfl) dL_law_1928 ?_
  refine r_istore (pc := 1931) X (by decide) dL_law_1931 ?_
  refine r_aload_n (pc := 1933) X dL_law_1933 rfl ?_
  refine r_aload_n (pc := 1934) X dL_law_1934 rfl ?_
  refine r_iload (pc := 1935) X dL_law_1935 rfl ?_
  refine r_iconst (pc := 1937) X (v := 1) dL_law_1937 (by decide) ?_
  refine r_iadd (pc := 1938) X dL_law_1938 ?_
  refine r_sld (pc := 1939) X Z dL_law_1939 h (fun h => ?_)
  refine r_aload_n (pc := 1940) X dL_law_1940 rfl ?_
  refine r_iload (pc := 1941) X dL_law_1941 rfl ?_
  refine r_iconst (pc := 1943) X (v := 2) dL_law_1943 (by decide) ?_
  refine r_iadd (pc := 1944) X dL_law_1944 ?_
  refine r_sld (pc := 1945) X Z dL_law_1945 h (fun h => ?_)
  refine bndE h (fun r4 M5 h6 h => ?_)
  refine r_callVi2 (pc := 1946) X ⟨(ltb rfl), (ltb rfl)⟩ rfl vy_X12_whenRaised my_X12_whenRaised ml_L_226 ⟨Nat.le_of_ble_eq_true rfl, Nat.le_of_ble_eq_true rfl, by show _ ≤ 601024; omega, by show _ ≤ 7293034; omega⟩ (c_X12_whenRaised  h6) (Nat.le_of_ble_eq_true rfl) dL_law_1946 ?_
  refine r_istore (pc := 1949) X (by decide) dL_law_1949 ?_
  refine r_aload_n (pc := 1951) X dL_law_1951 rfl ?_
  refine bndE h (fun r7 M8 h9 h => ?_)
  refine r_callVi0 (pc := 1952) X ⟨(ltb rfl), (ltb rfl)⟩ rfl vy_X12_thrown my_X12_thrown ml_L_124 ⟨Nat.le_of_ble_eq_true rfl, Nat.le_of_ble_eq_true rfl, by show _ ≤ 601024; omega, by show _ ≤ 7293034; omega⟩ (c_X12_thrown  h9) (Nat.le_of_ble_eq_true rfl) dL_law_1952 ?_
  refine r_iload (pc := 1955) X dL_law_1955 rfl ?_
  refine r_icmp_eq (pc := 1957) X (tgt := 1962) dL_law_1957 (by decide) h (fun h => ?_) (fun h => ?_)
  · refine r_iload (pc := 1962) X dL_law_1962 rfl ?_
    refine r_if_ne (pc := 1964) X (tgt := 1979) dL_law_1964 (by decide) h (fun h => ?_) (fun h => ?_)
    · exact T_widen (k := (ce + 2)) (n := (sl + 12)) (by omega) (by omega) (T_sub (t_L_law_1979 X Y Z hr hfl (by omega) (by omega) hr28 h) ⟨rfl, rfl, rfl, rfl, rfl, rfl, trivial⟩)
    · refine r_aload_n (pc := 1967) X dL_law_1967 rfl ?_
      refine r_iconst (pc := 1968) X (v := 0) dL_law_1968 (by decide) ?_
      refine r_lald (pc := 1969) X (n := 1) ⟨(ltb rfl), (ltb rfl), hfl⟩ rfl (nlt rfl) dL_law_1969 h (fun h => ?_)
      refine r_iload (pc := 1970) X dL_law_1970 rfl ?_
      refine r_i2l (pc := 1972) X dL_law_1972 ?_
      refine r_lcmp (pc := 1973) X dL_law_1973 ?_
      refine r_if_eq (pc := 1974) X (tgt := 1979) dL_law_1974 (by decide) h (fun h => ?_) (fun h => ?_)
      · exact T_widen (k := (ce + 2)) (n := (sl + 12)) (by omega) (by omega) (T_sub (t_L_law_1979 X Y Z hr hfl (by omega) (by omega) hr28 h) ⟨rfl, rfl, rfl, rfl, rfl, rfl, trivial⟩)
      · refine r_iconst (pc := 1977) X (v := 0) dL_law_1977 (by decide) ?_
        exact ret0 h
  · refine r_iconst (pc := 1960) X (v := 0) dL_law_1960 (by decide) ?_
    exact ret0 h
def f_L_law_2047 (xs : Nat → Int32) (L : Nat) (r28 : Int32 → Mem → Option (Int32 × Mem)) (x5 : Int32) (M : Mem) : Option (Int32 × Mem) :=
  f_L_law_2259 xs L r28 x5 M
set_option maxHeartbeats 4000000 in
set_option maxRecDepth 100000 in
theorem t_L_law_2047 {G : GG} {p : Program} {l : Launch} {e : Env} {s : State} {m : MethodId} {below : List Frame} {meth : Method} {c : Code} {b L : Nat} {xs : Nat → Int32} {M' : Mem} (X : Cx G (AL s) p s m #[Value.ref b] meth c RL cL_law 9) (Y : CxH G (AL s) l s) (Z : CxL (AL s) s b L xs) (hr : meth.sig.returnType = ret) (hfl : G.2.2.2.2 = true) {ce sl : Nat} (hce : ce + 2 ≤ 601024) (hsl : sl + 12 ≤ 7293034) {r28 : Int32 → Mem → Option (Int32 × Mem)} (hr28 : ∀ (x5 : Int32) (M : Mem), r28 x5 M = some (1, M') → T G (AL s) p l e room_1 s m #[Value.ref b] below meth c 9 (ce + 2) (sl + 12) (lw_Z below #[Value.ref b] s) 28 [(0, .ref b), (1, .ref (G.2.1 (9, 0, 0))), (2, .ref (G.2.1 (10, 0, 0))), (3, .ref (G.2.1 (40, 0, 0))), (4, .ref (G.2.1 (41, 0, 0))), (5, .int x5)] [] M) {x5 : Int32} {M : Mem}  (h : f_L_law_2047 xs L r28 x5 M = some (1, M')) : T G (AL s) p l e room_1 s m #[Value.ref b] below meth c 9 (ce + 2) (sl + 12) (lw_Z below #[Value.ref b] s) 2047 [(0, .ref b), (1, .ref (G.2.1 (9, 0, 0))), (2, .ref (G.2.1 (10, 0, 0))), (3, .ref (G.2.1 (40, 0, 0))), (4, .ref (G.2.1 (41, 0, 0))), (5, .int x5)] [] M := by
  unfold f_L_law_2047 at h
  refine r_goto (pc := 2047) X (tgt := 2259) dL_law_2047 (by decide) ?_
  exact T_widen (k := (ce + 2)) (n := (sl + 12)) (by omega) (by omega) (T_sub (t_L_law_2259 X Y Z hr hfl (by omega) (by omega) hr28 h) ⟨rfl, rfl, rfl, rfl, rfl, rfl, trivial⟩)
def f_L_law_1982 (xs : Nat → Int32) (L : Nat) (r28 : Int32 → Mem → Option (Int32 × Mem)) (x5 : Int32) (M : Mem) : Option (Int32 × Mem) :=
  if bad (x5 + 1) L then none else if bad (x5 + 2) L then none else bnd (f_L_overrunsWith (xs (Int32.toNatClampNeg (x5 + 1))) (xs (Int32.toNatClampNeg (x5 + 2))) M) (fun r1 M2 => if bad (x5 + 1) L then none else if bad (x5 + 2) L then none else bnd (f_X12_overrunsWith (xs (Int32.toNatClampNeg (x5 + 1))) (xs (Int32.toNatClampNeg (x5 + 2))) M2) (fun r4 M5 => bnd (f_X12_thrown  M5) (fun r7 M8 => if r7 = r1 then if r1 = 0 then if bad 0 1 then none else if (lg_cmp (M8.2.1 (40, 0, 0) (Int32.toNatClampNeg 0)) (Int32.toInt64 r4)) = 0 then f_L_law_2047 xs L r28 x5 M8 else some (0, M8) else f_L_law_2047 xs L r28 x5 M8 else some (0, M8))))
set_option maxHeartbeats 4000000 in
set_option maxRecDepth 100000 in
theorem t_L_law_1982 {G : GG} {p : Program} {l : Launch} {e : Env} {s : State} {m : MethodId} {below : List Frame} {meth : Method} {c : Code} {b L : Nat} {xs : Nat → Int32} {M' : Mem} (X : Cx G (AL s) p s m #[Value.ref b] meth c RL cL_law 9) (Y : CxH G (AL s) l s) (Z : CxL (AL s) s b L xs) (hr : meth.sig.returnType = ret) (hfl : G.2.2.2.2 = true) {ce sl : Nat} (hce : ce + 2 ≤ 601024) (hsl : sl + 12 ≤ 7293034) {r28 : Int32 → Mem → Option (Int32 × Mem)} (hr28 : ∀ (x5 : Int32) (M : Mem), r28 x5 M = some (1, M') → T G (AL s) p l e room_1 s m #[Value.ref b] below meth c 9 (ce + 2) (sl + 12) (lw_Z below #[Value.ref b] s) 28 [(0, .ref b), (1, .ref (G.2.1 (9, 0, 0))), (2, .ref (G.2.1 (10, 0, 0))), (3, .ref (G.2.1 (40, 0, 0))), (4, .ref (G.2.1 (41, 0, 0))), (5, .int x5)] [] M) {x5 : Int32} {M : Mem}  (h : f_L_law_1982 xs L r28 x5 M = some (1, M')) : T G (AL s) p l e room_1 s m #[Value.ref b] below meth c 9 ce sl (lw_Z below #[Value.ref b] s) 1982 [(0, .ref b), (1, .ref (G.2.1 (9, 0, 0))), (2, .ref (G.2.1 (10, 0, 0))), (3, .ref (G.2.1 (40, 0, 0))), (4, .ref (G.2.1 (41, 0, 0))), (5, .int x5)] [] M := by
  unfold f_L_law_1982 at h
  refine r_aload_n (pc := 1982) X dL_law_1982 rfl ?_
  refine r_aload_n (pc := 1983) X dL_law_1983 rfl ?_
  refine r_iload (pc := 1984) X dL_law_1984 rfl ?_
  refine r_iconst (pc := 1986) X (v := 1) dL_law_1986 (by decide) ?_
  refine r_iadd (pc := 1987) X dL_law_1987 ?_
  refine r_sld (pc := 1988) X Z dL_law_1988 h (fun h => ?_)
  refine r_aload_n (pc := 1989) X dL_law_1989 rfl ?_
  refine r_iload (pc := 1990) X dL_law_1990 rfl ?_
  refine r_iconst (pc := 1992) X (v := 2) dL_law_1992 (by decide) ?_
  refine r_iadd (pc := 1993) X dL_law_1993 ?_
  refine r_sld (pc := 1994) X Z dL_law_1994 h (fun h => ?_)
  refine r_aload_n (pc := 1995) X dL_law_1995 rfl ?_
  refine bndE h (fun r1 M2 h3 h => ?_)
  refine r_callHS4 (pc := 1996) X Y sy_L_overrunsWith myh_L_overrunsWith ml_L_227 ⟨Nat.le_of_ble_eq_true rfl, Nat.le_of_ble_eq_true rfl, by show _ ≤ 601024; omega, by show _ ≤ 7293034; omega⟩ (fun sz => c_L_overrunsWith Y.1 hfl  h3) (Nat.le_of_ble_eq_true rfl) dL_law_1996 ?_
  refine r_istore (pc := 1999) X (by decide) dL_law_1999 ?_
  refine r_aload_n (pc := 2001) X dL_law_2001 rfl ?_
  refine r_aload_n (pc := 2002) X dL_law_2002 rfl ?_
  refine r_iload (pc := 2003) X dL_law_2003 rfl ?_
  refine r_iconst (pc := 2005) X (v := 1) dL_law_2005 (by decide) ?_
  refine r_iadd (pc := 2006) X dL_law_2006 ?_
  refine r_sld (pc := 2007) X Z dL_law_2007 h (fun h => ?_)
  refine r_aload_n (pc := 2008) X dL_law_2008 rfl ?_
  refine r_iload (pc := 2009) X dL_law_2009 rfl ?_
  refine r_iconst (pc := 2011) X (v := 2) dL_law_2011 (by decide) ?_
  refine r_iadd (pc := 2012) X dL_law_2012 ?_
  refine r_sld (pc := 2013) X Z dL_law_2013 h (fun h => ?_)
  refine bndE h (fun r4 M5 h6 h => ?_)
  refine r_callVi2 (pc := 2014) X ⟨(ltb rfl), (ltb rfl)⟩ rfl vy_X12_overrunsWith my_X12_overrunsWith ml_L_229 ⟨Nat.le_of_ble_eq_true rfl, Nat.le_of_ble_eq_true rfl, by show _ ≤ 601024; omega, by show _ ≤ 7293034; omega⟩ (c_X12_overrunsWith  h6) (Nat.le_of_ble_eq_true rfl) dL_law_2014 ?_
  refine r_istore (pc := 2017) X (by decide) dL_law_2017 ?_
  refine r_aload_n (pc := 2019) X dL_law_2019 rfl ?_
  refine bndE h (fun r7 M8 h9 h => ?_)
  refine r_callVi0 (pc := 2020) X ⟨(ltb rfl), (ltb rfl)⟩ rfl vy_X12_thrown my_X12_thrown ml_L_124 ⟨Nat.le_of_ble_eq_true rfl, Nat.le_of_ble_eq_true rfl, by show _ ≤ 601024; omega, by show _ ≤ 7293034; omega⟩ (c_X12_thrown  h9) (Nat.le_of_ble_eq_true rfl) dL_law_2020 ?_
  refine r_iload (pc := 2023) X dL_law_2023 rfl ?_
  refine r_icmp_eq (pc := 2025) X (tgt := 2030) dL_law_2025 (by decide) h (fun h => ?_) (fun h => ?_)
  · refine r_iload (pc := 2030) X dL_law_2030 rfl ?_
    refine r_if_ne (pc := 2032) X (tgt := 2047) dL_law_2032 (by decide) h (fun h => ?_) (fun h => ?_)
    · exact T_widen (k := (ce + 2)) (n := (sl + 12)) (by omega) (by omega) (T_sub (t_L_law_2047 X Y Z hr hfl (by omega) (by omega) hr28 h) ⟨rfl, rfl, rfl, rfl, rfl, rfl, trivial⟩)
    · refine r_aload_n (pc := 2035) X dL_law_2035 rfl ?_
      refine r_iconst (pc := 2036) X (v := 0) dL_law_2036 (by decide) ?_
      refine r_lald (pc := 2037) X (n := 1) ⟨(ltb rfl), (ltb rfl), hfl⟩ rfl (nlt rfl) dL_law_2037 h (fun h => ?_)
      refine r_iload (pc := 2038) X dL_law_2038 rfl ?_
      refine r_i2l (pc := 2040) X dL_law_2040 ?_
      refine r_lcmp (pc := 2041) X dL_law_2041 ?_
      refine r_if_eq (pc := 2042) X (tgt := 2047) dL_law_2042 (by decide) h (fun h => ?_) (fun h => ?_)
      · exact T_widen (k := (ce + 2)) (n := (sl + 12)) (by omega) (by omega) (T_sub (t_L_law_2047 X Y Z hr hfl (by omega) (by omega) hr28 h) ⟨rfl, rfl, rfl, rfl, rfl, rfl, trivial⟩)
      · refine r_iconst (pc := 2045) X (v := 0) dL_law_2045 (by decide) ?_
        exact ret0 h
  · refine r_iconst (pc := 2028) X (v := 0) dL_law_2028 (by decide) ?_
    exact ret0 h
def f_L_law_2103 (xs : Nat → Int32) (L : Nat) (r28 : Int32 → Mem → Option (Int32 × Mem)) (x5 : Int32) (M : Mem) : Option (Int32 × Mem) :=
  f_L_law_2259 xs L r28 x5 M
set_option maxHeartbeats 4000000 in
set_option maxRecDepth 100000 in
theorem t_L_law_2103 {G : GG} {p : Program} {l : Launch} {e : Env} {s : State} {m : MethodId} {below : List Frame} {meth : Method} {c : Code} {b L : Nat} {xs : Nat → Int32} {M' : Mem} (X : Cx G (AL s) p s m #[Value.ref b] meth c RL cL_law 9) (Y : CxH G (AL s) l s) (Z : CxL (AL s) s b L xs) (hr : meth.sig.returnType = ret) (hfl : G.2.2.2.2 = true) {ce sl : Nat} (hce : ce + 2 ≤ 601024) (hsl : sl + 12 ≤ 7293034) {r28 : Int32 → Mem → Option (Int32 × Mem)} (hr28 : ∀ (x5 : Int32) (M : Mem), r28 x5 M = some (1, M') → T G (AL s) p l e room_1 s m #[Value.ref b] below meth c 9 (ce + 2) (sl + 12) (lw_Z below #[Value.ref b] s) 28 [(0, .ref b), (1, .ref (G.2.1 (9, 0, 0))), (2, .ref (G.2.1 (10, 0, 0))), (3, .ref (G.2.1 (40, 0, 0))), (4, .ref (G.2.1 (41, 0, 0))), (5, .int x5)] [] M) {x5 : Int32} {M : Mem}  (h : f_L_law_2103 xs L r28 x5 M = some (1, M')) : T G (AL s) p l e room_1 s m #[Value.ref b] below meth c 9 (ce + 1) (sl + 6) (lw_Z below #[Value.ref b] s) 2103 [(0, .ref b), (1, .ref (G.2.1 (9, 0, 0))), (2, .ref (G.2.1 (10, 0, 0))), (3, .ref (G.2.1 (40, 0, 0))), (4, .ref (G.2.1 (41, 0, 0))), (5, .int x5)] [] M := by
  unfold f_L_law_2103 at h
  refine r_goto (pc := 2103) X (tgt := 2259) dL_law_2103 (by decide) ?_
  exact T_widen (k := (ce + 2)) (n := (sl + 12)) (by omega) (by omega) (T_sub (t_L_law_2259 X Y Z hr hfl (by omega) (by omega) hr28 h) ⟨rfl, rfl, rfl, rfl, rfl, rfl, trivial⟩)
def f_L_law_2050 (xs : Nat → Int32) (L : Nat) (r28 : Int32 → Mem → Option (Int32 × Mem)) (x5 : Int32) (M : Mem) : Option (Int32 × Mem) :=
  if bad (x5 + 1) L then none else bnd (f_L_slowestPace (xs (Int32.toNatClampNeg (x5 + 1))) M) (fun r1 M2 => if bad (x5 + 1) L then none else bnd (f_X12_slowestPace (xs (Int32.toNatClampNeg (x5 + 1))) M2) (fun r4 M5 => bnd (f_X12_thrown  M5) (fun r7 M8 => if r7 = r1 then if r1 = 0 then if bad 0 1 then none else if (lg_cmp (M8.2.1 (40, 0, 0) (Int32.toNatClampNeg 0)) (Int32.toInt64 r4)) = 0 then f_L_law_2103 xs L r28 x5 M8 else some (0, M8) else f_L_law_2103 xs L r28 x5 M8 else some (0, M8))))
set_option maxHeartbeats 4000000 in
set_option maxRecDepth 100000 in
theorem t_L_law_2050 {G : GG} {p : Program} {l : Launch} {e : Env} {s : State} {m : MethodId} {below : List Frame} {meth : Method} {c : Code} {b L : Nat} {xs : Nat → Int32} {M' : Mem} (X : Cx G (AL s) p s m #[Value.ref b] meth c RL cL_law 9) (Y : CxH G (AL s) l s) (Z : CxL (AL s) s b L xs) (hr : meth.sig.returnType = ret) (hfl : G.2.2.2.2 = true) {ce sl : Nat} (hce : ce + 2 ≤ 601024) (hsl : sl + 12 ≤ 7293034) {r28 : Int32 → Mem → Option (Int32 × Mem)} (hr28 : ∀ (x5 : Int32) (M : Mem), r28 x5 M = some (1, M') → T G (AL s) p l e room_1 s m #[Value.ref b] below meth c 9 (ce + 2) (sl + 12) (lw_Z below #[Value.ref b] s) 28 [(0, .ref b), (1, .ref (G.2.1 (9, 0, 0))), (2, .ref (G.2.1 (10, 0, 0))), (3, .ref (G.2.1 (40, 0, 0))), (4, .ref (G.2.1 (41, 0, 0))), (5, .int x5)] [] M) {x5 : Int32} {M : Mem}  (h : f_L_law_2050 xs L r28 x5 M = some (1, M')) : T G (AL s) p l e room_1 s m #[Value.ref b] below meth c 9 ce sl (lw_Z below #[Value.ref b] s) 2050 [(0, .ref b), (1, .ref (G.2.1 (9, 0, 0))), (2, .ref (G.2.1 (10, 0, 0))), (3, .ref (G.2.1 (40, 0, 0))), (4, .ref (G.2.1 (41, 0, 0))), (5, .int x5)] [] M := by
  unfold f_L_law_2050 at h
  refine r_aload_n (pc := 2050) X dL_law_2050 rfl ?_
  refine r_aload_n (pc := 2051) X dL_law_2051 rfl ?_
  refine r_iload (pc := 2052) X dL_law_2052 rfl ?_
  refine r_iconst (pc := 2054) X (v := 1) dL_law_2054 (by decide) ?_
  refine r_iadd (pc := 2055) X dL_law_2055 ?_
  refine r_sld (pc := 2056) X Z dL_law_2056 h (fun h => ?_)
  refine r_aload_n (pc := 2057) X dL_law_2057 rfl ?_
  refine bndE h (fun r1 M2 h3 h => ?_)
  refine r_callHS3 (pc := 2058) X Y sy_L_slowestPace myh_L_slowestPace ml_L_230 ⟨Nat.le_of_ble_eq_true rfl, Nat.le_of_ble_eq_true rfl, by show _ ≤ 601024; omega, by show _ ≤ 7293034; omega⟩ (fun sz => c_L_slowestPace Y.1 hfl  h3) (Nat.le_of_ble_eq_true rfl) dL_law_2058 ?_
  refine r_istore (pc := 2061) X (by decide) dL_law_2061 ?_
  refine r_aload_n (pc := 2063) X dL_law_2063 rfl ?_
  refine r_aload_n (pc := 2064) X dL_law_2064 rfl ?_
  refine r_iload (pc := 2065) X dL_law_2065 rfl ?_
  refine r_iconst (pc := 2067) X (v := 1) dL_law_2067 (by decide) ?_
  refine r_iadd (pc := 2068) X dL_law_2068 ?_
  refine r_sld (pc := 2069) X Z dL_law_2069 h (fun h => ?_)
  refine bndE h (fun r4 M5 h6 h => ?_)
  refine r_callVi1 (pc := 2070) X ⟨(ltb rfl), (ltb rfl)⟩ rfl vy_X12_slowestPace my_X12_slowestPace ml_L_232 ⟨Nat.le_of_ble_eq_true rfl, Nat.le_of_ble_eq_true rfl, by show _ ≤ 601024; omega, by show _ ≤ 7293034; omega⟩ (c_X12_slowestPace  h6) (Nat.le_of_ble_eq_true rfl) dL_law_2070 ?_
  refine r_istore (pc := 2073) X (by decide) dL_law_2073 ?_
  refine r_aload_n (pc := 2075) X dL_law_2075 rfl ?_
  refine bndE h (fun r7 M8 h9 h => ?_)
  refine r_callVi0 (pc := 2076) X ⟨(ltb rfl), (ltb rfl)⟩ rfl vy_X12_thrown my_X12_thrown ml_L_124 ⟨Nat.le_of_ble_eq_true rfl, Nat.le_of_ble_eq_true rfl, by show _ ≤ 601024; omega, by show _ ≤ 7293034; omega⟩ (c_X12_thrown  h9) (Nat.le_of_ble_eq_true rfl) dL_law_2076 ?_
  refine r_iload (pc := 2079) X dL_law_2079 rfl ?_
  refine r_icmp_eq (pc := 2081) X (tgt := 2086) dL_law_2081 (by decide) h (fun h => ?_) (fun h => ?_)
  · refine r_iload (pc := 2086) X dL_law_2086 rfl ?_
    refine r_if_ne (pc := 2088) X (tgt := 2103) dL_law_2088 (by decide) h (fun h => ?_) (fun h => ?_)
    · exact T_widen (k := (ce + 1)) (n := (sl + 6)) (by omega) (by omega) (T_sub (t_L_law_2103 X Y Z hr hfl (by omega) (by omega) hr28 h) ⟨rfl, rfl, rfl, rfl, rfl, rfl, trivial⟩)
    · refine r_aload_n (pc := 2091) X dL_law_2091 rfl ?_
      refine r_iconst (pc := 2092) X (v := 0) dL_law_2092 (by decide) ?_
      refine r_lald (pc := 2093) X (n := 1) ⟨(ltb rfl), (ltb rfl), hfl⟩ rfl (nlt rfl) dL_law_2093 h (fun h => ?_)
      refine r_iload (pc := 2094) X dL_law_2094 rfl ?_
      refine r_i2l (pc := 2096) X dL_law_2096 ?_
      refine r_lcmp (pc := 2097) X dL_law_2097 ?_
      refine r_if_eq (pc := 2098) X (tgt := 2103) dL_law_2098 (by decide) h (fun h => ?_) (fun h => ?_)
      · exact T_widen (k := (ce + 1)) (n := (sl + 6)) (by omega) (by omega) (T_sub (t_L_law_2103 X Y Z hr hfl (by omega) (by omega) hr28 h) ⟨rfl, rfl, rfl, rfl, rfl, rfl, trivial⟩)
      · refine r_iconst (pc := 2101) X (v := 0) dL_law_2101 (by decide) ?_
        exact ret0 h
  · refine r_iconst (pc := 2084) X (v := 0) dL_law_2084 (by decide) ?_
    exact ret0 h
def f_L_law_2139 (xs : Nat → Int32) (L : Nat) (r28 : Int32 → Mem → Option (Int32 × Mem)) (x5 : Int32) (xs0 : Int32) (xs2 : Int32) (M : Mem) : Option (Int32 × Mem) :=
  bnd (f_X12_passLength xs0 M) (fun r1 M2 => if xs2 = r1 then f_L_law_2259 xs L r28 x5 M2 else some (0, M2))
set_option maxHeartbeats 4000000 in
set_option maxRecDepth 100000 in
theorem t_L_law_2139 {G : GG} {p : Program} {l : Launch} {e : Env} {s : State} {m : MethodId} {below : List Frame} {meth : Method} {c : Code} {b L : Nat} {xs : Nat → Int32} {M' : Mem} (X : Cx G (AL s) p s m #[Value.ref b] meth c RL cL_law 9) (Y : CxH G (AL s) l s) (Z : CxL (AL s) s b L xs) (hr : meth.sig.returnType = ret) (hfl : G.2.2.2.2 = true) {ce sl : Nat} (hce : ce + 2 ≤ 601024) (hsl : sl + 12 ≤ 7293034) {r28 : Int32 → Mem → Option (Int32 × Mem)} (hr28 : ∀ (x5 : Int32) (M : Mem), r28 x5 M = some (1, M') → T G (AL s) p l e room_1 s m #[Value.ref b] below meth c 9 (ce + 2) (sl + 12) (lw_Z below #[Value.ref b] s) 28 [(0, .ref b), (1, .ref (G.2.1 (9, 0, 0))), (2, .ref (G.2.1 (10, 0, 0))), (3, .ref (G.2.1 (40, 0, 0))), (4, .ref (G.2.1 (41, 0, 0))), (5, .int x5)] [] M) {x5 : Int32} {xs0 : Int32} {xs2 : Int32} {M : Mem}  (h : f_L_law_2139 xs L r28 x5 xs0 xs2 M = some (1, M')) : T G (AL s) p l e room_1 s m #[Value.ref b] below meth c 9 ce sl (lw_Z below #[Value.ref b] s) 2139 [(0, .ref b), (1, .ref (G.2.1 (9, 0, 0))), (2, .ref (G.2.1 (10, 0, 0))), (3, .ref (G.2.1 (40, 0, 0))), (4, .ref (G.2.1 (41, 0, 0))), (5, .int x5)] [.int xs0, .ref (G.2.1 (10, 0, 0)), .int xs2] M := by
  unfold f_L_law_2139 at h
  refine bndE h (fun r1 M2 h3 h => ?_)
  refine r_callVi1 (pc := 2139) X ⟨(ltb rfl), (ltb rfl)⟩ rfl vy_X12_passLength my_X12_passLength ml_L_237 ⟨Nat.le_of_ble_eq_true rfl, Nat.le_of_ble_eq_true rfl, by show _ ≤ 601024; omega, by show _ ≤ 7293034; omega⟩ (c_X12_passLength  h3) (Nat.le_of_ble_eq_true rfl) dL_law_2139 ?_
  refine r_icmp_eq (pc := 2142) X (tgt := 2259) dL_law_2142 (by decide) h (fun h => ?_) (fun h => ?_)
  · exact T_widen (k := (ce + 2)) (n := (sl + 12)) (by omega) (by omega) (T_sub (t_L_law_2259 X Y Z hr hfl (by omega) (by omega) hr28 h) ⟨rfl, rfl, rfl, rfl, rfl, rfl, trivial⟩)
  · refine r_iconst (pc := 2145) X (v := 0) dL_law_2145 (by decide) ?_
    exact ret0 h
def f_L_law_2121 (xs : Nat → Int32) (L : Nat) (r28 : Int32 → Mem → Option (Int32 × Mem)) (x5 : Int32) (xs0 : Int32) (M : Mem) : Option (Int32 × Mem) :=
  bnd (f_X11_passLength xs0 M) (fun r1 M2 => if bad (x5 + 1) L then none else if (xs (Int32.toNatClampNeg (x5 + 1))) = 0 then f_L_law_2139 xs L r28 x5 0 r1 M2 else f_L_law_2139 xs L r28 x5 1 r1 M2)
set_option maxHeartbeats 4000000 in
set_option maxRecDepth 100000 in
theorem t_L_law_2121 {G : GG} {p : Program} {l : Launch} {e : Env} {s : State} {m : MethodId} {below : List Frame} {meth : Method} {c : Code} {b L : Nat} {xs : Nat → Int32} {M' : Mem} (X : Cx G (AL s) p s m #[Value.ref b] meth c RL cL_law 9) (Y : CxH G (AL s) l s) (Z : CxL (AL s) s b L xs) (hr : meth.sig.returnType = ret) (hfl : G.2.2.2.2 = true) {ce sl : Nat} (hce : ce + 2 ≤ 601024) (hsl : sl + 12 ≤ 7293034) {r28 : Int32 → Mem → Option (Int32 × Mem)} (hr28 : ∀ (x5 : Int32) (M : Mem), r28 x5 M = some (1, M') → T G (AL s) p l e room_1 s m #[Value.ref b] below meth c 9 (ce + 2) (sl + 12) (lw_Z below #[Value.ref b] s) 28 [(0, .ref b), (1, .ref (G.2.1 (9, 0, 0))), (2, .ref (G.2.1 (10, 0, 0))), (3, .ref (G.2.1 (40, 0, 0))), (4, .ref (G.2.1 (41, 0, 0))), (5, .int x5)] [] M) {x5 : Int32} {xs0 : Int32} {M : Mem}  (h : f_L_law_2121 xs L r28 x5 xs0 M = some (1, M')) : T G (AL s) p l e room_1 s m #[Value.ref b] below meth c 9 ce sl (lw_Z below #[Value.ref b] s) 2121 [(0, .ref b), (1, .ref (G.2.1 (9, 0, 0))), (2, .ref (G.2.1 (10, 0, 0))), (3, .ref (G.2.1 (40, 0, 0))), (4, .ref (G.2.1 (41, 0, 0))), (5, .int x5)] [.int xs0, .ref (G.2.1 (9, 0, 0))] M := by
  unfold f_L_law_2121 at h
  refine bndE h (fun r1 M2 h3 h => ?_)
  refine r_callVi1 (pc := 2121) X ⟨(ltb rfl), (ltb rfl)⟩ rfl vy_X11_passLength my_X11_passLength ml_L_233 ⟨Nat.le_of_ble_eq_true rfl, Nat.le_of_ble_eq_true rfl, by show _ ≤ 601024; omega, by show _ ≤ 7293034; omega⟩ (c_X11_passLength  h3) (Nat.le_of_ble_eq_true rfl) dL_law_2121 ?_
  refine r_aload_n (pc := 2124) X dL_law_2124 rfl ?_
  refine r_aload_n (pc := 2125) X dL_law_2125 rfl ?_
  refine r_iload (pc := 2126) X dL_law_2126 rfl ?_
  refine r_iconst (pc := 2128) X (v := 1) dL_law_2128 (by decide) ?_
  refine r_iadd (pc := 2129) X dL_law_2129 ?_
  refine r_sld (pc := 2130) X Z dL_law_2130 h (fun h => ?_)
  refine r_if_eq (pc := 2131) X (tgt := 2138) dL_law_2131 (by decide) h (fun h => ?_) (fun h => ?_)
  · refine r_iconst (pc := 2138) X (v := 0) dL_law_2138 (by decide) ?_
    exact T_widen (k := ce) (n := sl) (by omega) (by omega) (T_sub (t_L_law_2139 X Y Z hr hfl (by omega) (by omega) hr28 h) ⟨rfl, rfl, rfl, rfl, rfl, rfl, trivial⟩)
  · refine r_iconst (pc := 2134) X (v := 1) dL_law_2134 (by decide) ?_
    refine r_goto (pc := 2135) X (tgt := 2139) dL_law_2135 (by decide) ?_
    exact T_widen (k := ce) (n := sl) (by omega) (by omega) (T_sub (t_L_law_2139 X Y Z hr hfl (by omega) (by omega) hr28 h) ⟨rfl, rfl, rfl, rfl, rfl, rfl, trivial⟩)
def f_L_law_2106 (xs : Nat → Int32) (L : Nat) (r28 : Int32 → Mem → Option (Int32 × Mem)) (x5 : Int32) (M : Mem) : Option (Int32 × Mem) :=
  if bad (x5 + 1) L then none else if (xs (Int32.toNatClampNeg (x5 + 1))) = 0 then f_L_law_2121 xs L r28 x5 0 M else f_L_law_2121 xs L r28 x5 1 M
set_option maxHeartbeats 4000000 in
set_option maxRecDepth 100000 in
theorem t_L_law_2106 {G : GG} {p : Program} {l : Launch} {e : Env} {s : State} {m : MethodId} {below : List Frame} {meth : Method} {c : Code} {b L : Nat} {xs : Nat → Int32} {M' : Mem} (X : Cx G (AL s) p s m #[Value.ref b] meth c RL cL_law 9) (Y : CxH G (AL s) l s) (Z : CxL (AL s) s b L xs) (hr : meth.sig.returnType = ret) (hfl : G.2.2.2.2 = true) {ce sl : Nat} (hce : ce + 2 ≤ 601024) (hsl : sl + 12 ≤ 7293034) {r28 : Int32 → Mem → Option (Int32 × Mem)} (hr28 : ∀ (x5 : Int32) (M : Mem), r28 x5 M = some (1, M') → T G (AL s) p l e room_1 s m #[Value.ref b] below meth c 9 (ce + 2) (sl + 12) (lw_Z below #[Value.ref b] s) 28 [(0, .ref b), (1, .ref (G.2.1 (9, 0, 0))), (2, .ref (G.2.1 (10, 0, 0))), (3, .ref (G.2.1 (40, 0, 0))), (4, .ref (G.2.1 (41, 0, 0))), (5, .int x5)] [] M) {x5 : Int32} {M : Mem}  (h : f_L_law_2106 xs L r28 x5 M = some (1, M')) : T G (AL s) p l e room_1 s m #[Value.ref b] below meth c 9 ce sl (lw_Z below #[Value.ref b] s) 2106 [(0, .ref b), (1, .ref (G.2.1 (9, 0, 0))), (2, .ref (G.2.1 (10, 0, 0))), (3, .ref (G.2.1 (40, 0, 0))), (4, .ref (G.2.1 (41, 0, 0))), (5, .int x5)] [] M := by
  unfold f_L_law_2106 at h
  refine r_aload_n (pc := 2106) X dL_law_2106 rfl ?_
  refine r_aload_n (pc := 2107) X dL_law_2107 rfl ?_
  refine r_iload (pc := 2108) X dL_law_2108 rfl ?_
  refine r_iconst (pc := 2110) X (v := 1) dL_law_2110 (by decide) ?_
  refine r_iadd (pc := 2111) X dL_law_2111 ?_
  refine r_sld (pc := 2112) X Z dL_law_2112 h (fun h => ?_)
  refine r_if_eq (pc := 2113) X (tgt := 2120) dL_law_2113 (by decide) h (fun h => ?_) (fun h => ?_)
  · refine r_iconst (pc := 2120) X (v := 0) dL_law_2120 (by decide) ?_
    exact T_widen (k := ce) (n := sl) (by omega) (by omega) (T_sub (t_L_law_2121 X Y Z hr hfl (by omega) (by omega) hr28 h) ⟨rfl, rfl, rfl, rfl, rfl, rfl, trivial⟩)
  · refine r_iconst (pc := 2116) X (v := 1) dL_law_2116 (by decide) ?_
    refine r_goto (pc := 2117) X (tgt := 2121) dL_law_2117 (by decide) ?_
    exact T_widen (k := ce) (n := sl) (by omega) (by omega) (T_sub (t_L_law_2121 X Y Z hr hfl (by omega) (by omega) hr28 h) ⟨rfl, rfl, rfl, rfl, rfl, rfl, trivial⟩)
def f_L_law_2200 (xs : Nat → Int32) (L : Nat) (r28 : Int32 → Mem → Option (Int32 × Mem)) (x5 : Int32) (M : Mem) : Option (Int32 × Mem) :=
  f_L_law_2259 xs L r28 x5 M
set_option maxHeartbeats 4000000 in
set_option maxRecDepth 100000 in
theorem t_L_law_2200 {G : GG} {p : Program} {l : Launch} {e : Env} {s : State} {m : MethodId} {below : List Frame} {meth : Method} {c : Code} {b L : Nat} {xs : Nat → Int32} {M' : Mem} (X : Cx G (AL s) p s m #[Value.ref b] meth c RL cL_law 9) (Y : CxH G (AL s) l s) (Z : CxL (AL s) s b L xs) (hr : meth.sig.returnType = ret) (hfl : G.2.2.2.2 = true) {ce sl : Nat} (hce : ce + 2 ≤ 601024) (hsl : sl + 12 ≤ 7293034) {r28 : Int32 → Mem → Option (Int32 × Mem)} (hr28 : ∀ (x5 : Int32) (M : Mem), r28 x5 M = some (1, M') → T G (AL s) p l e room_1 s m #[Value.ref b] below meth c 9 (ce + 2) (sl + 12) (lw_Z below #[Value.ref b] s) 28 [(0, .ref b), (1, .ref (G.2.1 (9, 0, 0))), (2, .ref (G.2.1 (10, 0, 0))), (3, .ref (G.2.1 (40, 0, 0))), (4, .ref (G.2.1 (41, 0, 0))), (5, .int x5)] [] M) {x5 : Int32} {M : Mem}  (h : f_L_law_2200 xs L r28 x5 M = some (1, M')) : T G (AL s) p l e room_1 s m #[Value.ref b] below meth c 9 (ce + 1) (sl + 6) (lw_Z below #[Value.ref b] s) 2200 [(0, .ref b), (1, .ref (G.2.1 (9, 0, 0))), (2, .ref (G.2.1 (10, 0, 0))), (3, .ref (G.2.1 (40, 0, 0))), (4, .ref (G.2.1 (41, 0, 0))), (5, .int x5)] [] M := by
  unfold f_L_law_2200 at h
  refine r_goto (pc := 2200) X (tgt := 2259) dL_law_2200 (by decide) ?_
  exact T_widen (k := (ce + 2)) (n := (sl + 12)) (by omega) (by omega) (T_sub (t_L_law_2259 X Y Z hr hfl (by omega) (by omega) hr28 h) ⟨rfl, rfl, rfl, rfl, rfl, rfl, trivial⟩)
def f_L_law_2147 (xs : Nat → Int32) (L : Nat) (r28 : Int32 → Mem → Option (Int32 × Mem)) (x5 : Int32) (M : Mem) : Option (Int32 × Mem) :=
  if bad (x5 + 1) L then none else bnd (f_L_save (xs (Int32.toNatClampNeg (x5 + 1))) M) (fun r1 M2 => if bad (x5 + 1) L then none else bnd (f_X12_save (xs (Int32.toNatClampNeg (x5 + 1))) M2) (fun r4 M5 => bnd (f_X12_thrown  M5) (fun r7 M8 => if r7 = r1 then if r1 = 0 then if bad 0 1 then none else if (lg_cmp (M8.2.1 (40, 0, 0) (Int32.toNatClampNeg 0)) (Int32.toInt64 r4)) = 0 then f_L_law_2200 xs L r28 x5 M8 else some (0, M8) else f_L_law_2200 xs L r28 x5 M8 else some (0, M8))))
set_option maxHeartbeats 4000000 in
set_option maxRecDepth 100000 in
theorem t_L_law_2147 {G : GG} {p : Program} {l : Launch} {e : Env} {s : State} {m : MethodId} {below : List Frame} {meth : Method} {c : Code} {b L : Nat} {xs : Nat → Int32} {M' : Mem} (X : Cx G (AL s) p s m #[Value.ref b] meth c RL cL_law 9) (Y : CxH G (AL s) l s) (Z : CxL (AL s) s b L xs) (hr : meth.sig.returnType = ret) (hfl : G.2.2.2.2 = true) {ce sl : Nat} (hce : ce + 2 ≤ 601024) (hsl : sl + 12 ≤ 7293034) {r28 : Int32 → Mem → Option (Int32 × Mem)} (hr28 : ∀ (x5 : Int32) (M : Mem), r28 x5 M = some (1, M') → T G (AL s) p l e room_1 s m #[Value.ref b] below meth c 9 (ce + 2) (sl + 12) (lw_Z below #[Value.ref b] s) 28 [(0, .ref b), (1, .ref (G.2.1 (9, 0, 0))), (2, .ref (G.2.1 (10, 0, 0))), (3, .ref (G.2.1 (40, 0, 0))), (4, .ref (G.2.1 (41, 0, 0))), (5, .int x5)] [] M) {x5 : Int32} {M : Mem}  (h : f_L_law_2147 xs L r28 x5 M = some (1, M')) : T G (AL s) p l e room_1 s m #[Value.ref b] below meth c 9 ce sl (lw_Z below #[Value.ref b] s) 2147 [(0, .ref b), (1, .ref (G.2.1 (9, 0, 0))), (2, .ref (G.2.1 (10, 0, 0))), (3, .ref (G.2.1 (40, 0, 0))), (4, .ref (G.2.1 (41, 0, 0))), (5, .int x5)] [] M := by
  unfold f_L_law_2147 at h
  refine r_aload_n (pc := 2147) X dL_law_2147 rfl ?_
  refine r_aload_n (pc := 2148) X dL_law_2148 rfl ?_
  refine r_iload (pc := 2149) X dL_law_2149 rfl ?_
  refine r_iconst (pc := 2151) X (v := 1) dL_law_2151 (by decide) ?_
  refine r_iadd (pc := 2152) X dL_law_2152 ?_
  refine r_sld (pc := 2153) X Z dL_law_2153 h (fun h => ?_)
  refine r_aload_n (pc := 2154) X dL_law_2154 rfl ?_
  refine bndE h (fun r1 M2 h3 h => ?_)
  refine r_callHS3 (pc := 2155) X Y sy_L_save myh_L_save ml_L_238 ⟨Nat.le_of_ble_eq_true rfl, Nat.le_of_ble_eq_true rfl, by show _ ≤ 601024; omega, by show _ ≤ 7293034; omega⟩ (fun sz => c_L_save Y.1 hfl  h3) (Nat.le_of_ble_eq_true rfl) dL_law_2155 ?_
  refine r_istore (pc := 2158) X (by decide) dL_law_2158 ?_
  refine r_aload_n (pc := 2160) X dL_law_2160 rfl ?_
  refine r_aload_n (pc := 2161) X dL_law_2161 rfl ?_
  refine r_iload (pc := 2162) X dL_law_2162 rfl ?_
  refine r_iconst (pc := 2164) X (v := 1) dL_law_2164 (by decide) ?_
  refine r_iadd (pc := 2165) X dL_law_2165 ?_
  refine r_sld (pc := 2166) X Z dL_law_2166 h (fun h => ?_)
  refine bndE h (fun r4 M5 h6 h => ?_)
  refine r_callVi1 (pc := 2167) X ⟨(ltb rfl), (ltb rfl)⟩ rfl vy_X12_save my_X12_save ml_L_240 ⟨Nat.le_of_ble_eq_true rfl, Nat.le_of_ble_eq_true rfl, by show _ ≤ 601024; omega, by show _ ≤ 7293034; omega⟩ (c_X12_save  h6) (Nat.le_of_ble_eq_true rfl) dL_law_2167 ?_
  refine r_istore (pc := 2170) X (by decide) dL_law_2170 ?_
  refine r_aload_n (pc := 2172) X dL_law_2172 rfl ?_
  refine bndE h (fun r7 M8 h9 h => ?_)
  refine r_callVi0 (pc := 2173) X ⟨(ltb rfl), (ltb rfl)⟩ rfl vy_X12_thrown my_X12_thrown ml_L_124 ⟨Nat.le_of_ble_eq_true rfl, Nat.le_of_ble_eq_true rfl, by show _ ≤ 601024; omega, by show _ ≤ 7293034; omega⟩ (c_X12_thrown  h9) (Nat.le_of_ble_eq_true rfl) dL_law_2173 ?_
  refine r_iload (pc := 2176) X dL_law_2176 rfl ?_
  refine r_icmp_eq (pc := 2178) X (tgt := 2183) dL_law_2178 (by decide) h (fun h => ?_) (fun h => ?_)
  · refine r_iload (pc := 2183) X dL_law_2183 rfl ?_
    refine r_if_ne (pc := 2185) X (tgt := 2200) dL_law_2185 (by decide) h (fun h => ?_) (fun h => ?_)
    · exact T_widen (k := (ce + 1)) (n := (sl + 6)) (by omega) (by omega) (T_sub (t_L_law_2200 X Y Z hr hfl (by omega) (by omega) hr28 h) ⟨rfl, rfl, rfl, rfl, rfl, rfl, trivial⟩)
    · refine r_aload_n (pc := 2188) X dL_law_2188 rfl ?_
      refine r_iconst (pc := 2189) X (v := 0) dL_law_2189 (by decide) ?_
      refine r_lald (pc := 2190) X (n := 1) ⟨(ltb rfl), (ltb rfl), hfl⟩ rfl (nlt rfl) dL_law_2190 h (fun h => ?_)
      refine r_iload (pc := 2191) X dL_law_2191 rfl ?_
      refine r_i2l (pc := 2193) X dL_law_2193 ?_
      refine r_lcmp (pc := 2194) X dL_law_2194 ?_
      refine r_if_eq (pc := 2195) X (tgt := 2200) dL_law_2195 (by decide) h (fun h => ?_) (fun h => ?_)
      · exact T_widen (k := (ce + 1)) (n := (sl + 6)) (by omega) (by omega) (T_sub (t_L_law_2200 X Y Z hr hfl (by omega) (by omega) hr28 h) ⟨rfl, rfl, rfl, rfl, rfl, rfl, trivial⟩)
      · refine r_iconst (pc := 2198) X (v := 0) dL_law_2198 (by decide) ?_
        exact ret0 h
  · refine r_iconst (pc := 2181) X (v := 0) dL_law_2181 (by decide) ?_
    exact ret0 h
def f_L_law_2256 (xs : Nat → Int32) (L : Nat) (r28 : Int32 → Mem → Option (Int32 × Mem)) (x5 : Int32) (M : Mem) : Option (Int32 × Mem) :=
  f_L_law_2259 xs L r28 x5 M
set_option maxHeartbeats 4000000 in
set_option maxRecDepth 100000 in
theorem t_L_law_2256 {G : GG} {p : Program} {l : Launch} {e : Env} {s : State} {m : MethodId} {below : List Frame} {meth : Method} {c : Code} {b L : Nat} {xs : Nat → Int32} {M' : Mem} (X : Cx G (AL s) p s m #[Value.ref b] meth c RL cL_law 9) (Y : CxH G (AL s) l s) (Z : CxL (AL s) s b L xs) (hr : meth.sig.returnType = ret) (hfl : G.2.2.2.2 = true) {ce sl : Nat} (hce : ce + 2 ≤ 601024) (hsl : sl + 12 ≤ 7293034) {r28 : Int32 → Mem → Option (Int32 × Mem)} (hr28 : ∀ (x5 : Int32) (M : Mem), r28 x5 M = some (1, M') → T G (AL s) p l e room_1 s m #[Value.ref b] below meth c 9 (ce + 2) (sl + 12) (lw_Z below #[Value.ref b] s) 28 [(0, .ref b), (1, .ref (G.2.1 (9, 0, 0))), (2, .ref (G.2.1 (10, 0, 0))), (3, .ref (G.2.1 (40, 0, 0))), (4, .ref (G.2.1 (41, 0, 0))), (5, .int x5)] [] M) {x5 : Int32} {M : Mem}  (h : f_L_law_2256 xs L r28 x5 M = some (1, M')) : T G (AL s) p l e room_1 s m #[Value.ref b] below meth c 9 (ce + 2) (sl + 12) (lw_Z below #[Value.ref b] s) 2256 [(0, .ref b), (1, .ref (G.2.1 (9, 0, 0))), (2, .ref (G.2.1 (10, 0, 0))), (3, .ref (G.2.1 (40, 0, 0))), (4, .ref (G.2.1 (41, 0, 0))), (5, .int x5)] [] M := by
  unfold f_L_law_2256 at h
  refine r_goto (pc := 2256) X (tgt := 2259) dL_law_2256 (by decide) ?_
  exact T_widen (k := (ce + 2)) (n := (sl + 12)) (by omega) (by omega) (T_sub (t_L_law_2259 X Y Z hr hfl (by omega) (by omega) hr28 h) ⟨rfl, rfl, rfl, rfl, rfl, rfl, trivial⟩)
def f_L_law_2203 (xs : Nat → Int32) (L : Nat) (r28 : Int32 → Mem → Option (Int32 × Mem)) (x5 : Int32) (M : Mem) : Option (Int32 × Mem) :=
  if bad (x5 + 1) L then none else bnd (f_L_restore (xs (Int32.toNatClampNeg (x5 + 1))) M) (fun r1 M2 => if bad (x5 + 1) L then none else bnd (f_X12_restore (xs (Int32.toNatClampNeg (x5 + 1))) M2) (fun r4 M5 => bnd (f_X12_thrown  M5) (fun r7 M8 => if r7 = r1 then if r1 = 0 then if bad 0 1 then none else if (lg_cmp (M8.2.1 (40, 0, 0) (Int32.toNatClampNeg 0)) (Int32.toInt64 r4)) = 0 then f_L_law_2256 xs L r28 x5 M8 else some (0, M8) else f_L_law_2256 xs L r28 x5 M8 else some (0, M8))))
set_option maxHeartbeats 4000000 in
set_option maxRecDepth 100000 in
theorem t_L_law_2203 {G : GG} {p : Program} {l : Launch} {e : Env} {s : State} {m : MethodId} {below : List Frame} {meth : Method} {c : Code} {b L : Nat} {xs : Nat → Int32} {M' : Mem} (X : Cx G (AL s) p s m #[Value.ref b] meth c RL cL_law 9) (Y : CxH G (AL s) l s) (Z : CxL (AL s) s b L xs) (hr : meth.sig.returnType = ret) (hfl : G.2.2.2.2 = true) {ce sl : Nat} (hce : ce + 2 ≤ 601024) (hsl : sl + 12 ≤ 7293034) {r28 : Int32 → Mem → Option (Int32 × Mem)} (hr28 : ∀ (x5 : Int32) (M : Mem), r28 x5 M = some (1, M') → T G (AL s) p l e room_1 s m #[Value.ref b] below meth c 9 (ce + 2) (sl + 12) (lw_Z below #[Value.ref b] s) 28 [(0, .ref b), (1, .ref (G.2.1 (9, 0, 0))), (2, .ref (G.2.1 (10, 0, 0))), (3, .ref (G.2.1 (40, 0, 0))), (4, .ref (G.2.1 (41, 0, 0))), (5, .int x5)] [] M) {x5 : Int32} {M : Mem}  (h : f_L_law_2203 xs L r28 x5 M = some (1, M')) : T G (AL s) p l e room_1 s m #[Value.ref b] below meth c 9 ce sl (lw_Z below #[Value.ref b] s) 2203 [(0, .ref b), (1, .ref (G.2.1 (9, 0, 0))), (2, .ref (G.2.1 (10, 0, 0))), (3, .ref (G.2.1 (40, 0, 0))), (4, .ref (G.2.1 (41, 0, 0))), (5, .int x5)] [] M := by
  unfold f_L_law_2203 at h
  refine r_aload_n (pc := 2203) X dL_law_2203 rfl ?_
  refine r_aload_n (pc := 2204) X dL_law_2204 rfl ?_
  refine r_iload (pc := 2205) X dL_law_2205 rfl ?_
  refine r_iconst (pc := 2207) X (v := 1) dL_law_2207 (by decide) ?_
  refine r_iadd (pc := 2208) X dL_law_2208 ?_
  refine r_sld (pc := 2209) X Z dL_law_2209 h (fun h => ?_)
  refine r_aload_n (pc := 2210) X dL_law_2210 rfl ?_
  refine bndE h (fun r1 M2 h3 h => ?_)
  refine r_callHS3 (pc := 2211) X Y sy_L_restore myh_L_restore ml_L_241 ⟨Nat.le_of_ble_eq_true rfl, Nat.le_of_ble_eq_true rfl, by show _ ≤ 601024; omega, by show _ ≤ 7293034; omega⟩ (fun sz => c_L_restore Y.1 hfl  h3) (Nat.le_of_ble_eq_true rfl) dL_law_2211 ?_
  refine r_istore (pc := 2214) X (by decide) dL_law_2214 ?_
  refine r_aload_n (pc := 2216) X dL_law_2216 rfl ?_
  refine r_aload_n (pc := 2217) X dL_law_2217 rfl ?_
  refine r_iload (pc := 2218) X dL_law_2218 rfl ?_
  refine r_iconst (pc := 2220) X (v := 1) dL_law_2220 (by decide) ?_
  refine r_iadd (pc := 2221) X dL_law_2221 ?_
  refine r_sld (pc := 2222) X Z dL_law_2222 h (fun h => ?_)
  refine bndE h (fun r4 M5 h6 h => ?_)
  refine r_callVi1 (pc := 2223) X ⟨(ltb rfl), (ltb rfl)⟩ rfl vy_X12_restore my_X12_restore ml_L_243 ⟨Nat.le_of_ble_eq_true rfl, Nat.le_of_ble_eq_true rfl, by show _ ≤ 601024; omega, by show _ ≤ 7293034; omega⟩ (c_X12_restore  h6) (Nat.le_of_ble_eq_true rfl) dL_law_2223 ?_
  refine r_istore (pc := 2226) X (by decide) dL_law_2226 ?_
  refine r_aload_n (pc := 2228) X dL_law_2228 rfl ?_
  refine bndE h (fun r7 M8 h9 h => ?_)
  refine r_callVi0 (pc := 2229) X ⟨(ltb rfl), (ltb rfl)⟩ rfl vy_X12_thrown my_X12_thrown ml_L_124 ⟨Nat.le_of_ble_eq_true rfl, Nat.le_of_ble_eq_true rfl, by show _ ≤ 601024; omega, by show _ ≤ 7293034; omega⟩ (c_X12_thrown  h9) (Nat.le_of_ble_eq_true rfl) dL_law_2229 ?_
  refine r_iload (pc := 2232) X dL_law_2232 rfl ?_
  refine r_icmp_eq (pc := 2234) X (tgt := 2239) dL_law_2234 (by decide) h (fun h => ?_) (fun h => ?_)
  · refine r_iload (pc := 2239) X dL_law_2239 rfl ?_
    refine r_if_ne (pc := 2241) X (tgt := 2256) dL_law_2241 (by decide) h (fun h => ?_) (fun h => ?_)
    · exact T_widen (k := (ce + 2)) (n := (sl + 12)) (by omega) (by omega) (T_sub (t_L_law_2256 X Y Z hr hfl (by omega) (by omega) hr28 h) ⟨rfl, rfl, rfl, rfl, rfl, rfl, trivial⟩)
    · refine r_aload_n (pc := 2244) X dL_law_2244 rfl ?_
      refine r_iconst (pc := 2245) X (v := 0) dL_law_2245 (by decide) ?_
      refine r_lald (pc := 2246) X (n := 1) ⟨(ltb rfl), (ltb rfl), hfl⟩ rfl (nlt rfl) dL_law_2246 h (fun h => ?_)
      refine r_iload (pc := 2247) X dL_law_2247 rfl ?_
      refine r_i2l (pc := 2249) X dL_law_2249 ?_
      refine r_lcmp (pc := 2250) X dL_law_2250 ?_
      refine r_if_eq (pc := 2251) X (tgt := 2256) dL_law_2251 (by decide) h (fun h => ?_) (fun h => ?_)
      · exact T_widen (k := (ce + 2)) (n := (sl + 12)) (by omega) (by omega) (T_sub (t_L_law_2256 X Y Z hr hfl (by omega) (by omega) hr28 h) ⟨rfl, rfl, rfl, rfl, rfl, rfl, trivial⟩)
      · refine r_iconst (pc := 2254) X (v := 0) dL_law_2254 (by decide) ?_
        exact ret0 h
  · refine r_iconst (pc := 2237) X (v := 0) dL_law_2237 (by decide) ?_
    exact ret0 h
def f_L_law_28 (xs : Nat → Int32) (L : Nat) : Nat → Int32 → Mem → Option (Int32 × Mem)
  | 0 => fun _ _ => none
  | n + 1 => fun x5 M => if ((nI L) - 6) < x5 then some (1, M) else if bad x5 L then none else if ((xs (Int32.toNatClampNeg x5)) &&& 63) = 0 then f_L_law_200 xs L (f_L_law_28 xs L n) x5 M else if ((xs (Int32.toNatClampNeg x5)) &&& 63) = 1 then f_L_law_304 xs L (f_L_law_28 xs L n) x5 M else if ((xs (Int32.toNatClampNeg x5)) &&& 63) = 2 then f_L_law_360 xs L (f_L_law_28 xs L n) x5 M else if ((xs (Int32.toNatClampNeg x5)) &&& 63) = 3 then f_L_law_373 xs L (f_L_law_28 xs L n) x5 M else if ((xs (Int32.toNatClampNeg x5)) &&& 63) = 4 then f_L_law_386 xs L (f_L_law_28 xs L n) x5 M else if ((xs (Int32.toNatClampNeg x5)) &&& 63) = 5 then f_L_law_399 xs L (f_L_law_28 xs L n) x5 M else if ((xs (Int32.toNatClampNeg x5)) &&& 63) = 6 then f_L_law_455 xs L (f_L_law_28 xs L n) x5 M else if ((xs (Int32.toNatClampNeg x5)) &&& 63) = 7 then f_L_law_511 xs L (f_L_law_28 xs L n) x5 M else if ((xs (Int32.toNatClampNeg x5)) &&& 63) = 8 then f_L_law_524 xs L (f_L_law_28 xs L n) x5 M else if ((xs (Int32.toNatClampNeg x5)) &&& 63) = 9 then f_L_law_568 xs L (f_L_law_28 xs L n) x5 M else if ((xs (Int32.toNatClampNeg x5)) &&& 63) = 10 then f_L_law_624 xs L (f_L_law_28 xs L n) x5 M else if ((xs (Int32.toNatClampNeg x5)) &&& 63) = 11 then f_L_law_716 xs L (f_L_law_28 xs L n) x5 M else if ((xs (Int32.toNatClampNeg x5)) &&& 63) = 12 then f_L_law_784 xs L (f_L_law_28 xs L n) x5 M else if ((xs (Int32.toNatClampNeg x5)) &&& 63) = 13 then f_L_law_864 xs L (f_L_law_28 xs L n) x5 M else if ((xs (Int32.toNatClampNeg x5)) &&& 63) = 14 then f_L_law_920 xs L (f_L_law_28 xs L n) x5 M else if ((xs (Int32.toNatClampNeg x5)) &&& 63) = 15 then f_L_law_976 xs L (f_L_law_28 xs L n) x5 M else if ((xs (Int32.toNatClampNeg x5)) &&& 63) = 16 then f_L_law_1060 xs L (f_L_law_28 xs L n) x5 M else if ((xs (Int32.toNatClampNeg x5)) &&& 63) = 17 then f_L_law_1144 xs L (f_L_law_28 xs L n) x5 M else if ((xs (Int32.toNatClampNeg x5)) &&& 63) = 18 then f_L_law_1212 xs L (f_L_law_28 xs L n) x5 M else if ((xs (Int32.toNatClampNeg x5)) &&& 63) = 19 then f_L_law_1267 xs L (f_L_law_28 xs L n) x5 M else if ((xs (Int32.toNatClampNeg x5)) &&& 63) = 20 then f_L_law_1344 xs L (f_L_law_28 xs L n) x5 M else if ((xs (Int32.toNatClampNeg x5)) &&& 63) = 21 then f_L_law_1412 xs L (f_L_law_28 xs L n) x5 M else if ((xs (Int32.toNatClampNeg x5)) &&& 63) = 22 then f_L_law_1480 xs L (f_L_law_28 xs L n) x5 M else if ((xs (Int32.toNatClampNeg x5)) &&& 63) = 23 then f_L_law_1548 xs L (f_L_law_28 xs L n) x5 M else if ((xs (Int32.toNatClampNeg x5)) &&& 63) = 24 then f_L_law_1616 xs L (f_L_law_28 xs L n) x5 M else if ((xs (Int32.toNatClampNeg x5)) &&& 63) = 25 then f_L_law_1684 xs L (f_L_law_28 xs L n) x5 M else if ((xs (Int32.toNatClampNeg x5)) &&& 63) = 26 then f_L_law_1697 xs L (f_L_law_28 xs L n) x5 M else if ((xs (Int32.toNatClampNeg x5)) &&& 63) = 27 then f_L_law_1765 xs L (f_L_law_28 xs L n) x5 M else if ((xs (Int32.toNatClampNeg x5)) &&& 63) = 28 then f_L_law_1858 xs L (f_L_law_28 xs L n) x5 M else if ((xs (Int32.toNatClampNeg x5)) &&& 63) = 29 then f_L_law_1914 xs L (f_L_law_28 xs L n) x5 M else if ((xs (Int32.toNatClampNeg x5)) &&& 63) = 30 then f_L_law_1982 xs L (f_L_law_28 xs L n) x5 M else if ((xs (Int32.toNatClampNeg x5)) &&& 63) = 31 then f_L_law_2050 xs L (f_L_law_28 xs L n) x5 M else if ((xs (Int32.toNatClampNeg x5)) &&& 63) = 32 then f_L_law_2106 xs L (f_L_law_28 xs L n) x5 M else if ((xs (Int32.toNatClampNeg x5)) &&& 63) = 33 then f_L_law_2147 xs L (f_L_law_28 xs L n) x5 M else if ((xs (Int32.toNatClampNeg x5)) &&& 63) = 34 then f_L_law_2203 xs L (f_L_law_28 xs L n) x5 M else f_L_law_2259 xs L (f_L_law_28 xs L n) x5 M
set_option maxHeartbeats 4000000 in
set_option maxRecDepth 100000 in
theorem t_L_law_28 {G : GG} {p : Program} {l : Launch} {e : Env} {s : State} {m : MethodId} {below : List Frame} {meth : Method} {c : Code} {b L : Nat} {xs : Nat → Int32} {M' : Mem} (X : Cx G (AL s) p s m #[Value.ref b] meth c RL cL_law 9) (Y : CxH G (AL s) l s) (Z : CxL (AL s) s b L xs) (hr : meth.sig.returnType = ret) (hfl : G.2.2.2.2 = true) : ∀ (n ce sl : Nat) (x5 : Int32) (M : Mem), ce + 2 * n ≤ 601024 → sl + 12 * n ≤ 7293034 → f_L_law_28 xs L n x5 M = some (1, M') → T G (AL s) p l e room_1 s m #[Value.ref b] below meth c 9 ce sl (lw_Z below #[Value.ref b] s) 28 [(0, .ref b), (1, .ref (G.2.1 (9, 0, 0))), (2, .ref (G.2.1 (10, 0, 0))), (3, .ref (G.2.1 (40, 0, 0))), (4, .ref (G.2.1 (41, 0, 0))), (5, .int x5)] [] M := by
  intro n
  induction n with
  | zero =>
    intro ce sl x5 M hce hsl h
    cases h
  | succ n ih =>
    intro ce sl x5 M hce hsl h
    unfold f_L_law_28 at h
    refine r_iload (pc := 28) X dL_law_28 rfl ?_
    refine r_aload_n (pc := 30) X dL_law_30 rfl ?_
    refine r_slen (pc := 31) X Z dL_law_31 ?_
    refine r_bipush (pc := 32) X (v := 6) dL_law_32 (by decide) ?_
    refine r_isub (pc := 34) X dL_law_34 ?_
    refine r_icmp_gt (pc := 35) X (tgt := 2265) dL_law_35 (by decide) h (fun h => ?_) (fun h => ?_)
    · refine r_iconst (pc := 2265) X (v := 1) dL_law_2265 (by decide) ?_
      cases h
      exact r_lawret (pc := 2266) X hr (by omega) (by omega) dL_law_2266
    · refine r_aload_n (pc := 38) X dL_law_38 rfl ?_
      refine r_iload (pc := 39) X dL_law_39 rfl ?_
      refine r_sld (pc := 41) X Z dL_law_41 h (fun h => ?_)
      refine r_bipush (pc := 42) X (v := 63) dL_law_42 (by decide) ?_
      refine r_iand (pc := 44) X dL_law_44 ?_
      refine swc h (fun hq h => ?_) (fun hs0 h => ?_)
      · refine r_swInE (pc := 45) X hq (off := 155) (tgt := 200) dL_law_45 (by decide) (by decide) (by decide) (by decide) ?_
        exact T_widen (k := ce) (n := sl) (by omega) (by omega) (T_sub (t_L_law_200 X Y Z hr hfl (by omega) (by omega) (fun x5 M h => ih (ce + 2) (sl + 12) x5 M (by omega) (by omega) h) h) ⟨rfl, rfl, rfl, rfl, rfl, rfl, trivial⟩)
      refine swc h (fun hq h => ?_) (fun hs1 h => ?_)
      · refine r_swInE (pc := 45) X hq (off := 259) (tgt := 304) dL_law_45 (by decide) (by decide) (by decide) (by decide) ?_
        exact T_widen (k := ce) (n := sl) (by omega) (by omega) (T_sub (t_L_law_304 X Y Z hr hfl (by omega) (by omega) (fun x5 M h => ih (ce + 2) (sl + 12) x5 M (by omega) (by omega) h) h) ⟨rfl, rfl, rfl, rfl, rfl, rfl, trivial⟩)
      refine swc h (fun hq h => ?_) (fun hs2 h => ?_)
      · refine r_swInE (pc := 45) X hq (off := 315) (tgt := 360) dL_law_45 (by decide) (by decide) (by decide) (by decide) ?_
        exact T_widen (k := ce) (n := sl) (by omega) (by omega) (T_sub (t_L_law_360 X Y Z hr hfl (by omega) (by omega) (fun x5 M h => ih (ce + 2) (sl + 12) x5 M (by omega) (by omega) h) h) ⟨rfl, rfl, rfl, rfl, rfl, rfl, trivial⟩)
      refine swc h (fun hq h => ?_) (fun hs3 h => ?_)
      · refine r_swInE (pc := 45) X hq (off := 328) (tgt := 373) dL_law_45 (by decide) (by decide) (by decide) (by decide) ?_
        exact T_widen (k := ce) (n := sl) (by omega) (by omega) (T_sub (t_L_law_373 X Y Z hr hfl (by omega) (by omega) (fun x5 M h => ih (ce + 2) (sl + 12) x5 M (by omega) (by omega) h) h) ⟨rfl, rfl, rfl, rfl, rfl, rfl, trivial⟩)
      refine swc h (fun hq h => ?_) (fun hs4 h => ?_)
      · refine r_swInE (pc := 45) X hq (off := 341) (tgt := 386) dL_law_45 (by decide) (by decide) (by decide) (by decide) ?_
        exact T_widen (k := ce) (n := sl) (by omega) (by omega) (T_sub (t_L_law_386 X Y Z hr hfl (by omega) (by omega) (fun x5 M h => ih (ce + 2) (sl + 12) x5 M (by omega) (by omega) h) h) ⟨rfl, rfl, rfl, rfl, rfl, rfl, trivial⟩)
      refine swc h (fun hq h => ?_) (fun hs5 h => ?_)
      · refine r_swInE (pc := 45) X hq (off := 354) (tgt := 399) dL_law_45 (by decide) (by decide) (by decide) (by decide) ?_
        exact T_widen (k := ce) (n := sl) (by omega) (by omega) (T_sub (t_L_law_399 X Y Z hr hfl (by omega) (by omega) (fun x5 M h => ih (ce + 2) (sl + 12) x5 M (by omega) (by omega) h) h) ⟨rfl, rfl, rfl, rfl, rfl, rfl, trivial⟩)
      refine swc h (fun hq h => ?_) (fun hs6 h => ?_)
      · refine r_swInE (pc := 45) X hq (off := 410) (tgt := 455) dL_law_45 (by decide) (by decide) (by decide) (by decide) ?_
        exact T_widen (k := ce) (n := sl) (by omega) (by omega) (T_sub (t_L_law_455 X Y Z hr hfl (by omega) (by omega) (fun x5 M h => ih (ce + 2) (sl + 12) x5 M (by omega) (by omega) h) h) ⟨rfl, rfl, rfl, rfl, rfl, rfl, trivial⟩)
      refine swc h (fun hq h => ?_) (fun hs7 h => ?_)
      · refine r_swInE (pc := 45) X hq (off := 466) (tgt := 511) dL_law_45 (by decide) (by decide) (by decide) (by decide) ?_
        exact T_widen (k := ce) (n := sl) (by omega) (by omega) (T_sub (t_L_law_511 X Y Z hr hfl (by omega) (by omega) (fun x5 M h => ih (ce + 2) (sl + 12) x5 M (by omega) (by omega) h) h) ⟨rfl, rfl, rfl, rfl, rfl, rfl, trivial⟩)
      refine swc h (fun hq h => ?_) (fun hs8 h => ?_)
      · refine r_swInE (pc := 45) X hq (off := 479) (tgt := 524) dL_law_45 (by decide) (by decide) (by decide) (by decide) ?_
        exact T_widen (k := ce) (n := sl) (by omega) (by omega) (T_sub (t_L_law_524 X Y Z hr hfl (by omega) (by omega) (fun x5 M h => ih (ce + 2) (sl + 12) x5 M (by omega) (by omega) h) h) ⟨rfl, rfl, rfl, rfl, rfl, rfl, trivial⟩)
      refine swc h (fun hq h => ?_) (fun hs9 h => ?_)
      · refine r_swInE (pc := 45) X hq (off := 523) (tgt := 568) dL_law_45 (by decide) (by decide) (by decide) (by decide) ?_
        exact T_widen (k := ce) (n := sl) (by omega) (by omega) (T_sub (t_L_law_568 X Y Z hr hfl (by omega) (by omega) (fun x5 M h => ih (ce + 2) (sl + 12) x5 M (by omega) (by omega) h) h) ⟨rfl, rfl, rfl, rfl, rfl, rfl, trivial⟩)
      refine swc h (fun hq h => ?_) (fun hs10 h => ?_)
      · refine r_swInE (pc := 45) X hq (off := 579) (tgt := 624) dL_law_45 (by decide) (by decide) (by decide) (by decide) ?_
        exact T_widen (k := ce) (n := sl) (by omega) (by omega) (T_sub (t_L_law_624 X Y Z hr hfl (by omega) (by omega) (fun x5 M h => ih (ce + 2) (sl + 12) x5 M (by omega) (by omega) h) h) ⟨rfl, rfl, rfl, rfl, rfl, rfl, trivial⟩)
      refine swc h (fun hq h => ?_) (fun hs11 h => ?_)
      · refine r_swInE (pc := 45) X hq (off := 671) (tgt := 716) dL_law_45 (by decide) (by decide) (by decide) (by decide) ?_
        exact T_widen (k := ce) (n := sl) (by omega) (by omega) (T_sub (t_L_law_716 X Y Z hr hfl (by omega) (by omega) (fun x5 M h => ih (ce + 2) (sl + 12) x5 M (by omega) (by omega) h) h) ⟨rfl, rfl, rfl, rfl, rfl, rfl, trivial⟩)
      refine swc h (fun hq h => ?_) (fun hs12 h => ?_)
      · refine r_swInE (pc := 45) X hq (off := 739) (tgt := 784) dL_law_45 (by decide) (by decide) (by decide) (by decide) ?_
        exact T_widen (k := ce) (n := sl) (by omega) (by omega) (T_sub (t_L_law_784 X Y Z hr hfl (by omega) (by omega) (fun x5 M h => ih (ce + 2) (sl + 12) x5 M (by omega) (by omega) h) h) ⟨rfl, rfl, rfl, rfl, rfl, rfl, trivial⟩)
      refine swc h (fun hq h => ?_) (fun hs13 h => ?_)
      · refine r_swInE (pc := 45) X hq (off := 819) (tgt := 864) dL_law_45 (by decide) (by decide) (by decide) (by decide) ?_
        exact T_widen (k := ce) (n := sl) (by omega) (by omega) (T_sub (t_L_law_864 X Y Z hr hfl (by omega) (by omega) (fun x5 M h => ih (ce + 2) (sl + 12) x5 M (by omega) (by omega) h) h) ⟨rfl, rfl, rfl, rfl, rfl, rfl, trivial⟩)
      refine swc h (fun hq h => ?_) (fun hs14 h => ?_)
      · refine r_swInE (pc := 45) X hq (off := 875) (tgt := 920) dL_law_45 (by decide) (by decide) (by decide) (by decide) ?_
        exact T_widen (k := ce) (n := sl) (by omega) (by omega) (T_sub (t_L_law_920 X Y Z hr hfl (by omega) (by omega) (fun x5 M h => ih (ce + 2) (sl + 12) x5 M (by omega) (by omega) h) h) ⟨rfl, rfl, rfl, rfl, rfl, rfl, trivial⟩)
      refine swc h (fun hq h => ?_) (fun hs15 h => ?_)
      · refine r_swInE (pc := 45) X hq (off := 931) (tgt := 976) dL_law_45 (by decide) (by decide) (by decide) (by decide) ?_
        exact T_widen (k := ce) (n := sl) (by omega) (by omega) (T_sub (t_L_law_976 X Y Z hr hfl (by omega) (by omega) (fun x5 M h => ih (ce + 2) (sl + 12) x5 M (by omega) (by omega) h) h) ⟨rfl, rfl, rfl, rfl, rfl, rfl, trivial⟩)
      refine swc h (fun hq h => ?_) (fun hs16 h => ?_)
      · refine r_swInE (pc := 45) X hq (off := 1015) (tgt := 1060) dL_law_45 (by decide) (by decide) (by decide) (by decide) ?_
        exact T_widen (k := ce) (n := sl) (by omega) (by omega) (T_sub (t_L_law_1060 X Y Z hr hfl (by omega) (by omega) (fun x5 M h => ih (ce + 2) (sl + 12) x5 M (by omega) (by omega) h) h) ⟨rfl, rfl, rfl, rfl, rfl, rfl, trivial⟩)
      refine swc h (fun hq h => ?_) (fun hs17 h => ?_)
      · refine r_swInE (pc := 45) X hq (off := 1099) (tgt := 1144) dL_law_45 (by decide) (by decide) (by decide) (by decide) ?_
        exact T_widen (k := ce) (n := sl) (by omega) (by omega) (T_sub (t_L_law_1144 X Y Z hr hfl (by omega) (by omega) (fun x5 M h => ih (ce + 2) (sl + 12) x5 M (by omega) (by omega) h) h) ⟨rfl, rfl, rfl, rfl, rfl, rfl, trivial⟩)
      refine swc h (fun hq h => ?_) (fun hs18 h => ?_)
      · refine r_swInE (pc := 45) X hq (off := 1167) (tgt := 1212) dL_law_45 (by decide) (by decide) (by decide) (by decide) ?_
        exact T_widen (k := ce) (n := sl) (by omega) (by omega) (T_sub (t_L_law_1212 X Y Z hr hfl (by omega) (by omega) (fun x5 M h => ih (ce + 2) (sl + 12) x5 M (by omega) (by omega) h) h) ⟨rfl, rfl, rfl, rfl, rfl, rfl, trivial⟩)
      refine swc h (fun hq h => ?_) (fun hs19 h => ?_)
      · refine r_swInE (pc := 45) X hq (off := 1222) (tgt := 1267) dL_law_45 (by decide) (by decide) (by decide) (by decide) ?_
        exact T_widen (k := ce) (n := sl) (by omega) (by omega) (T_sub (t_L_law_1267 X Y Z hr hfl (by omega) (by omega) (fun x5 M h => ih (ce + 2) (sl + 12) x5 M (by omega) (by omega) h) h) ⟨rfl, rfl, rfl, rfl, rfl, rfl, trivial⟩)
      refine swc h (fun hq h => ?_) (fun hs20 h => ?_)
      · refine r_swInE (pc := 45) X hq (off := 1299) (tgt := 1344) dL_law_45 (by decide) (by decide) (by decide) (by decide) ?_
        exact T_widen (k := ce) (n := sl) (by omega) (by omega) (T_sub (t_L_law_1344 X Y Z hr hfl (by omega) (by omega) (fun x5 M h => ih (ce + 2) (sl + 12) x5 M (by omega) (by omega) h) h) ⟨rfl, rfl, rfl, rfl, rfl, rfl, trivial⟩)
      refine swc h (fun hq h => ?_) (fun hs21 h => ?_)
      · refine r_swInE (pc := 45) X hq (off := 1367) (tgt := 1412) dL_law_45 (by decide) (by decide) (by decide) (by decide) ?_
        exact T_widen (k := ce) (n := sl) (by omega) (by omega) (T_sub (t_L_law_1412 X Y Z hr hfl (by omega) (by omega) (fun x5 M h => ih (ce + 2) (sl + 12) x5 M (by omega) (by omega) h) h) ⟨rfl, rfl, rfl, rfl, rfl, rfl, trivial⟩)
      refine swc h (fun hq h => ?_) (fun hs22 h => ?_)
      · refine r_swInE (pc := 45) X hq (off := 1435) (tgt := 1480) dL_law_45 (by decide) (by decide) (by decide) (by decide) ?_
        exact T_widen (k := ce) (n := sl) (by omega) (by omega) (T_sub (t_L_law_1480 X Y Z hr hfl (by omega) (by omega) (fun x5 M h => ih (ce + 2) (sl + 12) x5 M (by omega) (by omega) h) h) ⟨rfl, rfl, rfl, rfl, rfl, rfl, trivial⟩)
      refine swc h (fun hq h => ?_) (fun hs23 h => ?_)
      · refine r_swInE (pc := 45) X hq (off := 1503) (tgt := 1548) dL_law_45 (by decide) (by decide) (by decide) (by decide) ?_
        exact T_widen (k := ce) (n := sl) (by omega) (by omega) (T_sub (t_L_law_1548 X Y Z hr hfl (by omega) (by omega) (fun x5 M h => ih (ce + 2) (sl + 12) x5 M (by omega) (by omega) h) h) ⟨rfl, rfl, rfl, rfl, rfl, rfl, trivial⟩)
      refine swc h (fun hq h => ?_) (fun hs24 h => ?_)
      · refine r_swInE (pc := 45) X hq (off := 1571) (tgt := 1616) dL_law_45 (by decide) (by decide) (by decide) (by decide) ?_
        exact T_widen (k := ce) (n := sl) (by omega) (by omega) (T_sub (t_L_law_1616 X Y Z hr hfl (by omega) (by omega) (fun x5 M h => ih (ce + 2) (sl + 12) x5 M (by omega) (by omega) h) h) ⟨rfl, rfl, rfl, rfl, rfl, rfl, trivial⟩)
      refine swc h (fun hq h => ?_) (fun hs25 h => ?_)
      · refine r_swInE (pc := 45) X hq (off := 1639) (tgt := 1684) dL_law_45 (by decide) (by decide) (by decide) (by decide) ?_
        exact T_widen (k := ce) (n := sl) (by omega) (by omega) (T_sub (t_L_law_1684 X Y Z hr hfl (by omega) (by omega) (fun x5 M h => ih (ce + 2) (sl + 12) x5 M (by omega) (by omega) h) h) ⟨rfl, rfl, rfl, rfl, rfl, rfl, trivial⟩)
      refine swc h (fun hq h => ?_) (fun hs26 h => ?_)
      · refine r_swInE (pc := 45) X hq (off := 1652) (tgt := 1697) dL_law_45 (by decide) (by decide) (by decide) (by decide) ?_
        exact T_widen (k := ce) (n := sl) (by omega) (by omega) (T_sub (t_L_law_1697 X Y Z hr hfl (by omega) (by omega) (fun x5 M h => ih (ce + 2) (sl + 12) x5 M (by omega) (by omega) h) h) ⟨rfl, rfl, rfl, rfl, rfl, rfl, trivial⟩)
      refine swc h (fun hq h => ?_) (fun hs27 h => ?_)
      · refine r_swInE (pc := 45) X hq (off := 1720) (tgt := 1765) dL_law_45 (by decide) (by decide) (by decide) (by decide) ?_
        exact T_widen (k := ce) (n := sl) (by omega) (by omega) (T_sub (t_L_law_1765 X Y Z hr hfl (by omega) (by omega) (fun x5 M h => ih (ce + 2) (sl + 12) x5 M (by omega) (by omega) h) h) ⟨rfl, rfl, rfl, rfl, rfl, rfl, trivial⟩)
      refine swc h (fun hq h => ?_) (fun hs28 h => ?_)
      · refine r_swInE (pc := 45) X hq (off := 1813) (tgt := 1858) dL_law_45 (by decide) (by decide) (by decide) (by decide) ?_
        exact T_widen (k := ce) (n := sl) (by omega) (by omega) (T_sub (t_L_law_1858 X Y Z hr hfl (by omega) (by omega) (fun x5 M h => ih (ce + 2) (sl + 12) x5 M (by omega) (by omega) h) h) ⟨rfl, rfl, rfl, rfl, rfl, rfl, trivial⟩)
      refine swc h (fun hq h => ?_) (fun hs29 h => ?_)
      · refine r_swInE (pc := 45) X hq (off := 1869) (tgt := 1914) dL_law_45 (by decide) (by decide) (by decide) (by decide) ?_
        exact T_widen (k := ce) (n := sl) (by omega) (by omega) (T_sub (t_L_law_1914 X Y Z hr hfl (by omega) (by omega) (fun x5 M h => ih (ce + 2) (sl + 12) x5 M (by omega) (by omega) h) h) ⟨rfl, rfl, rfl, rfl, rfl, rfl, trivial⟩)
      refine swc h (fun hq h => ?_) (fun hs30 h => ?_)
      · refine r_swInE (pc := 45) X hq (off := 1937) (tgt := 1982) dL_law_45 (by decide) (by decide) (by decide) (by decide) ?_
        exact T_widen (k := ce) (n := sl) (by omega) (by omega) (T_sub (t_L_law_1982 X Y Z hr hfl (by omega) (by omega) (fun x5 M h => ih (ce + 2) (sl + 12) x5 M (by omega) (by omega) h) h) ⟨rfl, rfl, rfl, rfl, rfl, rfl, trivial⟩)
      refine swc h (fun hq h => ?_) (fun hs31 h => ?_)
      · refine r_swInE (pc := 45) X hq (off := 2005) (tgt := 2050) dL_law_45 (by decide) (by decide) (by decide) (by decide) ?_
        exact T_widen (k := ce) (n := sl) (by omega) (by omega) (T_sub (t_L_law_2050 X Y Z hr hfl (by omega) (by omega) (fun x5 M h => ih (ce + 2) (sl + 12) x5 M (by omega) (by omega) h) h) ⟨rfl, rfl, rfl, rfl, rfl, rfl, trivial⟩)
      refine swc h (fun hq h => ?_) (fun hs32 h => ?_)
      · refine r_swInE (pc := 45) X hq (off := 2061) (tgt := 2106) dL_law_45 (by decide) (by decide) (by decide) (by decide) ?_
        exact T_widen (k := ce) (n := sl) (by omega) (by omega) (T_sub (t_L_law_2106 X Y Z hr hfl (by omega) (by omega) (fun x5 M h => ih (ce + 2) (sl + 12) x5 M (by omega) (by omega) h) h) ⟨rfl, rfl, rfl, rfl, rfl, rfl, trivial⟩)
      refine swc h (fun hq h => ?_) (fun hs33 h => ?_)
      · refine r_swInE (pc := 45) X hq (off := 2102) (tgt := 2147) dL_law_45 (by decide) (by decide) (by decide) (by decide) ?_
        exact T_widen (k := ce) (n := sl) (by omega) (by omega) (T_sub (t_L_law_2147 X Y Z hr hfl (by omega) (by omega) (fun x5 M h => ih (ce + 2) (sl + 12) x5 M (by omega) (by omega) h) h) ⟨rfl, rfl, rfl, rfl, rfl, rfl, trivial⟩)
      refine swc h (fun hq h => ?_) (fun hs34 h => ?_)
      · refine r_swInE (pc := 45) X hq (off := 2158) (tgt := 2203) dL_law_45 (by decide) (by decide) (by decide) (by decide) ?_
        exact T_widen (k := ce) (n := sl) (by omega) (by omega) (T_sub (t_L_law_2203 X Y Z hr hfl (by omega) (by omega) (fun x5 M h => ih (ce + 2) (sl + 12) x5 M (by omega) (by omega) h) h) ⟨rfl, rfl, rfl, rfl, rfl, rfl, trivial⟩)
      · refine r_swOut (pc := 45) X (tgt := 2259) dL_law_45 (by have z0 := lv_neT (a := 0) hs0 (by decide); have z1 := lv_neT (a := 1) hs1 (by decide); have z2 := lv_neT (a := 2) hs2 (by decide); have z3 := lv_neT (a := 3) hs3 (by decide); have z4 := lv_neT (a := 4) hs4 (by decide); have z5 := lv_neT (a := 5) hs5 (by decide); have z6 := lv_neT (a := 6) hs6 (by decide); have z7 := lv_neT (a := 7) hs7 (by decide); have z8 := lv_neT (a := 8) hs8 (by decide); have z9 := lv_neT (a := 9) hs9 (by decide); have z10 := lv_neT (a := 10) hs10 (by decide); have z11 := lv_neT (a := 11) hs11 (by decide); have z12 := lv_neT (a := 12) hs12 (by decide); have z13 := lv_neT (a := 13) hs13 (by decide); have z14 := lv_neT (a := 14) hs14 (by decide); have z15 := lv_neT (a := 15) hs15 (by decide); have z16 := lv_neT (a := 16) hs16 (by decide); have z17 := lv_neT (a := 17) hs17 (by decide); have z18 := lv_neT (a := 18) hs18 (by decide); have z19 := lv_neT (a := 19) hs19 (by decide); have z20 := lv_neT (a := 20) hs20 (by decide); have z21 := lv_neT (a := 21) hs21 (by decide); have z22 := lv_neT (a := 22) hs22 (by decide); have z23 := lv_neT (a := 23) hs23 (by decide); have z24 := lv_neT (a := 24) hs24 (by decide); have z25 := lv_neT (a := 25) hs25 (by decide); have z26 := lv_neT (a := 26) hs26 (by decide); have z27 := lv_neT (a := 27) hs27 (by decide); have z28 := lv_neT (a := 28) hs28 (by decide); have z29 := lv_neT (a := 29) hs29 (by decide); have z30 := lv_neT (a := 30) hs30 (by decide); have z31 := lv_neT (a := 31) hs31 (by decide); have z32 := lv_neT (a := 32) hs32 (by decide); have z33 := lv_neT (a := 33) hs33 (by decide); have z34 := lv_neT (a := 34) hs34 (by decide); omega) (by decide) ?_
        exact T_widen (k := (ce + 2)) (n := (sl + 12)) (by omega) (by omega) (T_sub (t_L_law_2259 X Y Z hr hfl (by omega) (by omega) (fun x5 M h => ih (ce + 2) (sl + 12) x5 M (by omega) (by omega) h) h) ⟨rfl, rfl, rfl, rfl, rfl, rfl, trivial⟩)
