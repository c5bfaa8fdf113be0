/-! ===== CONSTRUCTORS: rows over a list of cells that grows ===== -/
def tysA (ac : Nat → ClassId) : List (ClassId × FieldType) := (List.range 9).map fun t => (ac t, tyA.getD t .int)
/-- words that stay by their own rows -/
def nestL : List (String × Nat × MethodName) := [(RX3, 43, yX2_init), (RX3, 61, yX1_init), (RX3, 62, yX8_init), (RX3, 63, yX9_init), (RX11, 29, yX4_init), (RX4, 11, yX7_init)]
def overL : List String := [RX1, RX8, RX9, RX3]
def BW (U : State) : Prop := (∀ C ∈ overL, va_AO C U) ∧ (∀ q ∈ nestL, va_Nw (.methodLinkNest q.1 q.2.1 q.2.2 "ConverterScanner") U)
theorem BW.warm {s U : State} (hW : s.WarmedH U.vm) (h : BW s) : BW U := ⟨fun C hC => va_AO.moved hW.alike (h.1 C hC), fun q hq => va_Nw.warmM hW (h.2 q hq)⟩
theorem BW.same {u U : State} (hv : u.vm = U.vm) (h : BW u) : BW U := ⟨fun C hC => va_AO.moved (by rw [hv]; exact Vm.Alike.refl U.vm) (h.1 C hC), fun q hq => va_Nw.same rfl hv (h.2 q hq)⟩
def CK (D : va_G) (ac : Nat → ClassId) (w : Nat → Nat) (A : Nat → Prop) (p : Program) (s : State) (m : MethodId) (args : Array Value) (meth : Method) (c : Code) (own : String) (cc : ByteArray) (nL : Nat) : Prop :=
  p.tables.exec = Jvm.exec ∧ c.code = cc ∧ c.maxLocals = nL ∧ s.vm.findClass own = some m.cls ∧ (∀ w ∈ gtb, w.before args s = true) ∧ (∀ q, s.heap.size ≤ q → A q) ∧ va_K D gcl (tysA ac) s ∧ EN w A s s.heap ∧ BW s
def TK (D : va_G) (A : Nat → Prop) (p : Program) (l : Launch) (e : Env) (R : Room) (s : State) (m : MethodId) (args : Array Value) (below : List Frame) (meth : Method) (c : Code) (nL ce sl : Nat) (Q : State → Prop) (pc : Nat) (lo : List (Nat × Value)) (st : List Value) (ws : va_W) : Prop :=
  ∀ (H : Heap) (locs : List Loc) (ls : Array Jvm.Slot), va_S A s.heap H locs → va_P D gcl ws H → va_D A ws → lv_has ls nL lo → W p l e R s m args below meth c H locs ce sl Q (F0 m pc ls st)
/-! places -/
def plc : Nat → Nat → List Nat
  | _, 0 => []
  | a, n + 1 => a :: plc (a + 1) n
theorem plc_mem : ∀ {n a i : Nat}, i ∈ plc a n → a ≤ i ∧ i < a + n
  | 0, _, _, h => by cases h
  | n + 1, a, i, h => by
    rcases List.mem_cons.mp h with rfl | h
    · exact ⟨Nat.le_refl _, by omega⟩
    · have := plc_mem h; omega
theorem plc_nd : ∀ (n a : Nat), va_nd (plc a n) = true
  | 0, _ => rfl
  | n + 1, a => by
    unfold plc va_nd
    rw [plc_nd n (a + 1), Bool.and_true, decide_eq_true_eq]
    exact fun h => by have := plc_mem h; omega
theorem plc_at : ∀ (w pre post : va_W), (plc pre.length w.length).map (fun i => (pre ++ (w ++ post))[i]?) = w.map some
  | [], _, _ => rfl
  | x :: w, pre, post => by
    have h := plc_at w (pre ++ [x]) post
    have e : pre ++ [x] ++ (w ++ post) = pre ++ (x :: w ++ post) := by simp
    rw [e, List.length_append] at h
    show (pre ++ (x :: w ++ post))[pre.length]? :: (plc (pre.length + 1) w.length).map _ = some x :: w.map some
    rw [show pre.length + 1 = pre.length + [x].length from rfl, h]
    congr 1
    rw [List.getElem?_append_right (Nat.le_refl _), Nat.sub_self]
    rfl
theorem plc_R (X0 wc : va_W) : (plc 0 X0.length).map (fun i => (X0 ++ wc)[i]?) = X0.map some := plc_at X0 [] wc
theorem plc_C (X0 wc : va_W) : (plc X0.length wc.length).map (fun i => (X0 ++ wc)[i]?) = wc.map some := by
  have h := plc_at wc X0 []
  rw [List.append_nil] at h
  exact h
theorem at_mid {X Z : va_W} {x : Nat × va_E} : (X ++ x :: Z)[X.length]? = some x := by
  rw [List.getElem?_append_right (Nat.le_refl _), Nat.sub_self]
  rfl
theorem set_mid {X Z : va_W} {x y : Nat × va_E} : (X ++ x :: Z).set X.length y = X ++ y :: Z := by
  rw [List.set_append_right _ _ (Nat.le_refl _), Nat.sub_self]
  rfl
theorem P_app {D : va_G} {X Y : va_W} {H : Heap} (h : va_P D gcl (X ++ Y) H) : va_P D gcl X H ∧ va_P D gcl Y H := by
  refine ⟨fun k q hk => h k q ?_, fun k q hk => h (X.length + k) q ?_⟩
  · rw [List.getElem?_append_left (List.getElem?_eq_some_iff.mp hk).1]; exact hk
  · rw [List.getElem?_append_right (by omega), Nat.add_sub_cancel_left]; exact hk
/-! permuted worlds -/
theorem P_mem {D : va_G} {ws : va_W} {H : Heap} : va_P D gcl ws H ↔ ∀ q ∈ ws, va_at D gcl q H := by
  refine ⟨fun h q hq => ?_, fun h k q hk => h q (List.mem_of_getElem? hk)⟩
  obtain ⟨i, hi⟩ := List.getElem?_of_mem hq
  exact h i q hi
theorem D_nd {A : Nat → Prop} {ws : va_W} : va_D A ws ↔ (ws.map Prod.fst).Nodup ∧ ∀ q ∈ ws, A q.1 := by
  refine ⟨fun h => ⟨?_, fun q hq => ?_⟩, fun h => ⟨fun i j p q hi hj hpq => ?_, fun k q hk => h.2 q (List.mem_of_getElem? hk)⟩⟩
  · rw [List.Nodup, List.pairwise_iff_getElem]
    intro i j hi hj hij
    rw [List.length_map] at hi hj
    rw [List.getElem_map, List.getElem_map]
    intro e
    have := h.1 i j ws[i] ws[j] (List.getElem?_eq_getElem hi) (List.getElem?_eq_getElem hj) e
    omega
  · obtain ⟨i, hi⟩ := List.getElem?_of_mem hq
    exact h.2 i q hi
  · have hn := h.1
    rw [List.Nodup, List.pairwise_iff_getElem] at hn
    obtain ⟨hil, hi'⟩ := List.getElem?_eq_some_iff.mp hi
    obtain ⟨hjl, hj'⟩ := List.getElem?_eq_some_iff.mp hj
    rcases Nat.lt_trichotomy i j with q1 | q1 | q1
    · exact absurd (by rw [List.getElem_map, List.getElem_map, hi', hj']; exact hpq) (hn i j (by rw [List.length_map]; exact hil) (by rw [List.length_map]; exact hjl) q1)
    · exact q1
    · exact absurd (by rw [List.getElem_map, List.getElem_map, hi', hj']; exact hpq.symm) (hn j i (by rw [List.length_map]; exact hjl) (by rw [List.length_map]; exact hil) q1)
theorem D_perm {A : Nat → Prop} {ws ws' : va_W} (h : va_D A ws) (hp : ws.Perm ws') : va_D A ws' := by
  rw [D_nd] at *
  exact ⟨(hp.map Prod.fst).nodup_iff.mp h.1, fun q hq => h.2 q (hp.mem_iff.mpr hq)⟩
theorem P_perm {D : va_G} {ws ws' : va_W} {H : Heap} (h : va_P D gcl ws H) (hp : ws.Perm ws') : va_P D gcl ws' H := by
  rw [P_mem] at *
  exact fun q hq => h q (hp.mem_iff.mpr hq)
section KROWS
variable {D : va_G} {ac : Nat → ClassId} {w : Nat → Nat} {A : Nat → Prop} {p : Program} {l : Launch} {e : Env} {R : Room} {s : State} {m : MethodId} {args : Array Value} {below : List Frame} {meth : Method} {c : Code} {nL ce sl : Nat} {Q : State → Prop} {own : String} {cc : ByteArray}
  {pc : Nat} {lo : List (Nat × Value)} {st : List Value} {ws : va_W}
theorem TK_perm {ws' : va_W} (k : TK D A p l e R s m args below meth c nL ce sl Q pc lo st ws') (hp : ws.Perm ws') : TK D A p l e R s m args below meth c nL ce sl Q pc lo st ws :=
  fun H locs ls hS hP hD hl => k H locs ls hS (P_perm hP hp) (D_perm hD hp) hl
theorem TK_eq {ws' : va_W} (k : TK D A p l e R s m args below meth c nL ce sl Q pc lo st ws') (hp : ws = ws') : TK D A p l e R s m args below meth c nL ce sl Q pc lo st ws := by rw [hp]; exact k
theorem TK_sub {lo' : List (Nat × Value)} (k : TK D A p l e R s m args below meth c nL ce sl Q pc lo' st ws) (h : lsub lo lo') : TK D A p l e R s m args below meth c nL ce sl Q pc lo st ws :=
  fun H locs ls hS hP hD hl => k H locs ls hS hP hD ⟨hl.1, hl.2.1, fun q hq => hl.2.2 q (lsub_in h q hq)⟩
theorem TK_wide {ce' sl' : Nat} (k : TK D A p l e R s m args below meth c nL ce' sl' Q pc lo st ws) (h1 : ce ≤ ce') (h2 : sl ≤ sl') : TK D A p l e R s m args below meth c nL ce sl Q pc lo st ws :=
  fun H locs ls hS hP hD hl => W.widen h1 h2 (k H locs ls hS hP hD hl)
theorem k_iconst (X : CK D ac w A p s m args meth c own cc nL) {n : Int} {v : Int32} (d : decode cc pc = .ok (.iconst n, 1)) (hv : Int32.ofInt n = v) (k : TK D A p l e R s m args below meth c nL ce sl Q (pc + 1) lo (.int v :: st) ws) : TK D A p l e R s m args below meth c nL ce sl Q pc lo st ws :=
  fun H locs ls hS hP hD hl => lv_iconst X.1 X.2.1 d hv (k H locs ls hS hP hD hl)
theorem k_bipush (X : CK D ac w A p s m args meth c own cc nL) {n : Int} {v : Int32} (d : decode cc pc = .ok (.bipush n, 2)) (hv : (Int8.ofInt n).toInt32 = v) (k : TK D A p l e R s m args below meth c nL ce sl Q (pc + 2) lo (.int v :: st) ws) : TK D A p l e R s m args below meth c nL ce sl Q pc lo st ws :=
  fun H locs ls hS hP hD hl => lv_bipush X.1 X.2.1 d hv (k H locs ls hS hP hD hl)
theorem k_sipush (X : CK D ac w A p s m args meth c own cc nL) {n : Int} {v : Int32} (d : decode cc pc = .ok (.sipush n, 3)) (hv : (Int16.ofInt n).toInt32 = v) (k : TK D A p l e R s m args below meth c nL ce sl Q (pc + 3) lo (.int v :: st) ws) : TK D A p l e R s m args below meth c nL ce sl Q pc lo st ws :=
  fun H locs ls hS hP hD hl => lv_sipush X.1 X.2.1 d hv (k H locs ls hS hP hD hl)
theorem k_ldc2 (X : CK D ac w A p s m args meth c own cc nL) {index : Nat} {v : Int64} (hw : Cond.constantLong own index v ∈ gtb) (d : decode cc pc = .ok (.ldc2_w index, 3)) (k : TK D A p l e R s m args below meth c nL ce sl Q (pc + 3) lo (.long v :: st) ws) : TK D A p l e R s m args below meth c nL ce sl Q pc lo st ws :=
  fun H locs ls hS hP hD hl => lv_ldc2 X.1 X.2.1 X.2.2.2.1 (X.2.2.2.2.1 _ hw) d (k H locs ls hS hP hD hl)
theorem k_iload_n (X : CK D ac w A p s m args meth c own cc nL) {i : Fin 4} {x : Int32} (d : decode cc pc = .ok (.iload_n i, 1)) (hl : lk lo i = some (.int x)) (k : TK D A p l e R s m args below meth c nL ce sl Q (pc + 1) lo (.int x :: st) ws) : TK D A p l e R s m args below meth c nL ce sl Q pc lo st ws :=
  fun H locs ls hS hP hD hh => lv_iload_n X.1 X.2.1 d rfl (lk_at hh hl) (k H locs ls hS hP hD hh)
theorem k_aload_n (X : CK D ac w A p s m args meth c own cc nL) {i : Fin 4} {x : Nat} (d : decode cc pc = .ok (.aload_n i, 1)) (hl : lk lo i = some (.ref x)) (k : TK D A p l e R s m args below meth c nL ce sl Q (pc + 1) lo (.ref x :: st) ws) : TK D A p l e R s m args below meth c nL ce sl Q pc lo st ws :=
  fun H locs ls hS hP hD hh => lv_aload_n X.1 X.2.1 d rfl (lk_at hh hl) (k H locs ls hS hP hD hh)
theorem k_istore_n (X : CK D ac w A p s m args meth c own cc nL) {i : Fin 4} {x : Int32} (hn : (i : Nat) < nL) (d : decode cc pc = .ok (.istore_n i, 1)) (k : TK D A p l e R s m args below meth c nL ce sl Q (pc + 1) (lset i (.int x) lo) st ws) : TK D A p l e R s m args below meth c nL ce sl Q pc lo (.int x :: st) ws :=
  fun H locs ls hS hP hD hh => lv_istore_n X.1 X.2.1 d rfl hh hn rfl (fun ls' h' => k H locs ls' hS hP hD h')
theorem k_istore (X : CK D ac w A p s m args meth c own cc nL) {i : Nat} {x : Int32} (hn : i < nL) (d : decode cc pc = .ok (.istore i, 2)) (k : TK D A p l e R s m args below meth c nL ce sl Q (pc + 2) (lset i (.int x) lo) st ws) : TK D A p l e R s m args below meth c nL ce sl Q pc lo (.int x :: st) ws :=
  fun H locs ls hS hP hD hh => lv_istore X.1 X.2.1 d hh hn rfl (fun ls' h' => k H locs ls' hS hP hD h')
theorem k_astore_n (X : CK D ac w A p s m args meth c own cc nL) {i : Fin 4} {x : Nat} (hn : (i : Nat) < nL) (d : decode cc pc = .ok (.astore_n i, 1)) (k : TK D A p l e R s m args below meth c nL ce sl Q (pc + 1) (lset i (.ref x) lo) st ws) : TK D A p l e R s m args below meth c nL ce sl Q pc lo (.ref x :: st) ws :=
  fun H locs ls hS hP hD hh => lv_astore_n X.1 X.2.1 d rfl hh hn rfl (fun ls' h' => k H locs ls' hS hP hD h')
theorem k_astore (X : CK D ac w A p s m args meth c own cc nL) {i x : Nat} (hn : i < nL) (d : decode cc pc = .ok (.astore i, 2)) (k : TK D A p l e R s m args below meth c nL ce sl Q (pc + 2) (lset i (.ref x) lo) st ws) : TK D A p l e R s m args below meth c nL ce sl Q pc lo (.ref x :: st) ws :=
  fun H locs ls hS hP hD hh => lv_astore X.1 X.2.1 d hh hn rfl (fun ls' h' => k H locs ls' hS hP hD h')
theorem k_iinc (X : CK D ac w A p s m args meth c own cc nL) {i : Nat} {n : Int} {x v : Int32} (hl : lk lo i = some (.int x)) (hv : x + Int32.ofInt n = v) (hn : i < nL) (d : decode cc pc = .ok (.iinc i n, 3)) (k : TK D A p l e R s m args below meth c nL ce sl Q (pc + 3) (lset i (.int v) lo) st ws) : TK D A p l e R s m args below meth c nL ce sl Q pc lo st ws :=
  fun H locs ls hS hP hD hh => (lk_place hl).elim fun j hj => lv_iinc X.1 X.2.1 d hh hj hv hn rfl (fun ls' h' => k H locs ls' hS hP hD h')
theorem k_isub (X : CK D ac w A p s m args meth c own cc nL) {x y z : Int32} (hz : x - y = z) (d : decode cc pc = .ok (.isub, 1)) (k : TK D A p l e R s m args below meth c nL ce sl Q (pc + 1) lo (.int z :: st) ws) : TK D A p l e R s m args below meth c nL ce sl Q pc lo (.int y :: .int x :: st) ws :=
  fun H locs ls hS hP hD hl => by subst hz; exact lv_isub X.1 X.2.1 d (k H locs ls hS hP hD hl)
theorem k_imul (X : CK D ac w A p s m args meth c own cc nL) {x y z : Int32} (hz : x * y = z) (d : decode cc pc = .ok (.imul, 1)) (k : TK D A p l e R s m args below meth c nL ce sl Q (pc + 1) lo (.int z :: st) ws) : TK D A p l e R s m args below meth c nL ce sl Q pc lo (.int y :: .int x :: st) ws :=
  fun H locs ls hS hP hD hl => by subst hz; exact lv_imul X.1 X.2.1 d (k H locs ls hS hP hD hl)
theorem k_dup (X : CK D ac w A p s m args meth c own cc nL) {v : Value} (d : decode cc pc = .ok (.dup, 1)) (hv : v.category = 1) (k : TK D A p l e R s m args below meth c nL ce sl Q (pc + 1) lo (v :: v :: st) ws) : TK D A p l e R s m args below meth c nL ce sl Q pc lo (v :: st) ws :=
  fun H locs ls hS hP hD hl => lv_dup X.1 X.2.1 d hv (k H locs ls hS hP hD hl)
theorem k_goto (X : CK D ac w A p s m args meth c own cc nL) {off : Int} {tgt : Nat} (d : decode cc pc = .ok (.goto off, 3)) (ht : (pc : Int) + off = (tgt : Int)) (k : TK D A p l e R s m args below meth c nL ce sl Q tgt lo st ws) : TK D A p l e R s m args below meth c nL ce sl Q pc lo st ws :=
  fun H locs ls hS hP hD hl => lv_goto X.1 X.2.1 d ht (k H locs ls hS hP hD hl)
theorem k_icmp_ge (X : CK D ac w A p s m args meth c own cc nL) {x y : Int32} {off : Int} {tgt : Nat} (d : decode cc pc = .ok (.if_icmp .ge off, 3)) (ht : (pc : Int) + off = (tgt : Int)) (kt : y ≤ x → TK D A p l e R s m args below meth c nL ce sl Q tgt lo st ws) (kf : ¬ y ≤ x → TK D A p l e R s m args below meth c nL ce sl Q (pc + 3) lo st ws) : TK D A p l e R s m args below meth c nL ce sl Q pc lo (.int y :: .int x :: st) ws :=
  fun H locs ls hS hP hD hl => lv_icmp_ge X.1 X.2.1 d ht (fun h => kt h H locs ls hS hP hD hl) (fun h => kf h H locs ls hS hP hD hl)
theorem k_objInit (X : CK D ac w A p s m args meth c own cc nL) {idx a : Nat} (h1 : Cond.methodLink own idx Lib.objectInit ∈ gtb) (h2 : Cond.instanceMethod Lib.objectInit ∈ gtb) (h3 : Cond.code Lib.objectInit ⟨#[0xb1]⟩ 1 none ∈ gtb) (hR : 1 ≤ R.frames ∧ 12 ≤ R.locals) (d : decode cc pc = .ok (.invokespecial idx, 3))
    (k : TK D A p l e R s m args below meth c nL ce sl Q (pc + 3) lo [] ws) : TK D A p l e R s m args below meth c nL ce sl Q pc lo [.ref a] ws :=
  fun H locs ls hS hP hD hl => W.objInit X.1 X.2.1 X.2.2.2.1 (X.2.2.2.2.1 _ h1) (X.2.2.2.2.1 _ h2) (X.2.2.2.2.1 _ h3) rfl (by rw [X.2.2.1]; exact hl.1) rfl d hR.1 hR.2 (W.eq (g2 := F0 m (pc + 3) ls []) rfl (k H locs ls hS hP hD hl))
theorem k_new (X : CK D ac w A p s m args meth c own cc nL) {ci idx N : Nat} {C : String} {TT : u_T} (hc : gcl[ci]? = some (C, TT, N)) (ty : Nat → FieldType) (hty : ∀ k, k < N → parseFieldDescriptor (TT k).2.2.1 = some (ty k)) {fs : List Value} (hfs : ∀ j, j < N → defaultValue (ty j) = vp_V fs j) (h1 : Cond.classLink own idx C ∈ gtb) (h2 : Cond.instantiable C N ∈ gtb) (h3 : Cond.initialized C ∈ gtb) (hR : ce + 1 ≤ R.cells ∧ sl + N ≤ R.slots) (d : decode cc pc = .ok (.new idx, 3))
    (k : ∀ q : Nat, TK D A p l e R s m args below meth c nL (ce + 1) (sl + N) Q (pc + 3) lo (.ref q :: st) (ws ++ [(q, .inr (ci, fs))])) : TK D A p l e R s m args below meth c nL ce sl Q pc lo st ws :=
  fun H locs ls hS hP hD hl => va_new X.1 X.2.1 X.2.2.2.2.1 (gcl_at hc).1 ty hty X.2.2.2.1 (X.2.2.2.2.1 _ h1) (X.2.2.2.2.1 _ h2) (X.2.2.2.2.1 _ h3) X.2.2.2.2.2.2.1 hP hD hS X.2.2.2.2.2.1 hc hfs hR.1 hR.2 d (fun q H1 hP1 hD1 hS1 => k q H1 locs ls hS1 hP1 hD1 hl)
theorem tysA_at {t : Nat} (h : t < 9) : (tysA ac)[t]? = some (ac t, tyA.getD t .int) := by
  unfold tysA
  rw [List.getElem?_map, List.getElem?_range h]
  rfl
theorem k_newa (X : CK D ac w A p s m args meth c own cc nL) {atype : ArrayType} {ty : FieldType} (hw : Cond.arrayClass (newarray.typeOf atype) ∈ gtb) (hty : newarray.typeOf atype = ty) (t : Nat) (ht9 : t < 9) (ht : tyA.getD t .int = ty) (hpr : ∀ U cA, va_RA U cA ty = (U.vm.findClass ("[" ++ ty.toString) = some cA)) {n : Int32} {N' : Nat} {a0 : vp_A} (ha : ∀ cA : ClassId, vp_cell cA a0 = arrV cA N' (fun _ => defaultValue ty)) (hn : ¬ n < 0) (hN : n.toNatClampNeg = N') (hb : N' * componentBytes ty ≤ 536870912) (hR : ce + 1 ≤ R.cells ∧ sl + N' ≤ R.slots) (d : decode cc pc = .ok (.newarray atype, 2))
    (k : ∀ q : Nat, TK D A p l e R s m args below meth c nL (ce + 1) (sl + N') Q (pc + 2) lo (.ref q :: st) (ws ++ [(q, .inl (ac t, a0))])) : TK D A p l e R s m args below meth c nL ce sl Q pc lo (.int n :: st) ws := by
  intro H locs ls hS hP hD hl
  refine va_newa X.1 X.2.1 (X.2.2.2.2.1 _ hw) hty X.2.2.2.2.2.2.1 hP hD hS X.2.2.2.2.2.1 ha hn hN hb hR.1 hR.2 d (fun q cA H1 hK1 hP1 hD1 hS1 => ?_)
  have e1 : va_RA s cA ty := (hK1.2 (tysA ac).length (cA, ty) (by rw [List.getElem?_append_right (Nat.le_refl _), Nat.sub_self]; rfl)).2
  have e2 : va_RA s (ac t) ty := (X.2.2.2.2.2.2.1.2 t (ac t, ty) (by rw [tysA_at ht9, ht])).2
  rw [hpr] at e1 e2
  have e3 : cA = ac t := Option.some.inj (e1.symm.trans e2)
  subst e3
  exact k q H1 locs ls hS1 hP1 hD1 hl
theorem k_newq (X : CK D ac w A p s m args meth c own cc nL) {C : String} {idx : Nat} (h1 : Cond.classLink own idx C ∈ gtb) (h2 : C ∈ overL) (t : Nat) (ht9 : t < 9) (ht : tyA.getD t .int = .object C) {n : Int32} {N' : Nat} (hn : ¬ n < 0) (hN : n.toNatClampNeg = N') (hb : N' * 4 ≤ 536870912) (hR : ce + 1 ≤ R.cells ∧ sl + N' ≤ R.slots) (d : decode cc pc = .ok (.anewarray idx, 3))
    (k : ∀ q : Nat, TK D A p l e R s m args below meth c nL (ce + 1) (sl + N') Q (pc + 3) lo (.ref q :: st) (ws ++ [(q, .inl (ac t, N', .inr (.inr (.inr (.inr (fun _ => none))))))])) : TK D A p l e R s m args below meth c nL ce sl Q pc lo (.int n :: st) ws := by
  intro H locs ls hS hP hD hl
  refine va_newq X.1 X.2.1 X.2.2.2.1 (X.2.2.2.2.1 _ h1) (X.2.2.2.2.2.2.2.2.1 _ h2) X.2.2.2.2.2.2.1 hP hD hS X.2.2.2.2.2.1 hn hN hb hR.1 hR.2 d (fun q cA H1 hK1 hP1 hD1 hS1 => ?_)
  have e1 : va_RA s cA (.object C) := (hK1.2 (tysA ac).length (cA, .object C) (by rw [List.getElem?_append_right (Nat.le_refl _), Nat.sub_self]; rfl)).2
  have e2 : va_RA s (ac t) (.object C) := (X.2.2.2.2.2.2.1.2 t (ac t, .object C) (by rw [tysA_at ht9, ht])).2
  obtain ⟨_, _, _, _, _, e1⟩ := e1
  obtain ⟨_, _, _, _, _, e2⟩ := e2
  have e3 : cA = ac t := Option.some.inj (e1.symm.trans e2)
  subst e3
  exact k q H1 locs ls hS1 hP1 hD1 hl
/-- a field of the cell at a place -/
theorem k_get (X : CK D ac w A p s m args meth c own cc nL) {ci idx k0 a : Nat} {ds : String} {fs : List Value} {v : Value} (i : Nat) (he : ws[i]? = some (a, .inr (ci, fs))) (f : FL own idx ci k0 ds) (hv : fs[k0]? = some v) (d : decode cc pc = .ok (.getfield idx, 3))
    (k : TK D A p l e R s m args below meth c nL ce sl Q (pc + 3) lo (v :: st) ws) : TK D A p l e R s m args below meth c nL ce sl Q pc lo (.ref a :: st) ws := by
  intro H locs ls hS hP hD hl
  obtain ⟨⟨C, TT, N⟩, hq, hk, hlink, -⟩ := f
  exact va_get X.1 X.2.1 X.2.2.2.2.1 (gcl_at hq).1 X.2.2.2.1 X.2.2.2.2.2.2.1 hP i he hq k0 hk (X.2.2.2.2.1 _ hlink) (fun _ h => h) hv d (k H locs ls hS hP hD hl)
theorem k_put (X : CK D ac w A p s m args meth c own cc nL) {ci idx k0 a : Nat} {ds : String} {fs : List Value} {v : Value} {ty : FieldType} {ws' : va_W} (i : Nat) (he : ws[i]? = some (a, .inr (ci, fs))) (f : FP own idx ci k0 ds) (hty : parseFieldDescriptor ds = some ty) (hnr : narrow ty v = v) (hft : fits ty v = true) (hk9 : k0 < fs.length) (hw : ws.set i (a, .inr (ci, fs.set k0 v)) = ws') (d : decode cc pc = .ok (.putfield idx, 3))
    (k : TK D A p l e R s m args below meth c nL ce sl Q (pc + 3) lo st ws') : TK D A p l e R s m args below meth c nL ce sl Q pc lo (v :: .ref a :: st) ws := by
  intro H locs ls hS hP hD hl
  obtain ⟨⟨C, TT, N⟩, hq, hk, hlink, hds, hfin⟩ := f
  obtain ⟨hin, ⟨ty0, hty0⟩, hnm, -, -⟩ := gcl_at hq
  subst hw
  exact va_put X.1 X.2.1 X.2.2.2.2.1 hin ty0 hty0 hnm X.2.2.2.1 X.2.2.2.2.2.2.1 hP hD hS i he hq k0 hk (X.2.2.2.2.1 _ hlink) (fun _ h => h) hfin (ty := ty) (v := v) (by rw [hds]; exact hty) hnr hft hk9 d (fun H1 locs1 hP1 hD1 hS1 => k H1 locs1 ls hS1 hP1 hD1 hl)
/-- a final field, in the constructor -/
def FF (own : String) (index ci k : Nat) (ds : String) : Prop := ∃ q : vw_C, gcl[ci]? = some q ∧ k < q.2.2 ∧ Cond.fieldLink own index (q.2.1 k).1 (q.2.1 k).2.1 (q.2.1 k).2.2.1 ∈ gtb ∧ (q.2.1 k).2.2.1 = ds ∧ (q.2.1 k).2.2.2 = true ∧ (q.2.1 k).1 = own
theorem k_putF (X : CK D ac w A p s m args meth c own cc nL) (hin2 : meth.name = "<init>") {ci idx k0 a : Nat} {ds : String} {fs : List Value} {v : Value} {ty : FieldType} {ws' : va_W} (i : Nat) (he : ws[i]? = some (a, .inr (ci, fs))) (f : FF own idx ci k0 ds) (hty : parseFieldDescriptor ds = some ty) (hnr : narrow ty v = v) (hft : fits ty v = true) (hk9 : k0 < fs.length) (hw : ws.set i (a, .inr (ci, fs.set k0 v)) = ws') (d : decode cc pc = .ok (.putfield idx, 3))
    (k : TK D A p l e R s m args below meth c nL ce sl Q (pc + 3) lo st ws') : TK D A p l e R s m args below meth c nL ce sl Q pc lo (v :: .ref a :: st) ws := by
  intro H locs ls hS hP hD hl
  obtain ⟨⟨C, TT, N⟩, hq, hk, hlink, hds, hfin, hdc⟩ := f
  obtain ⟨hin, ⟨ty0, hty0⟩, hnm, -, -⟩ := gcl_at hq
  subst hw
  exact va_putF X.1 X.2.1 X.2.2.2.2.1 hin ty0 hty0 hnm X.2.2.2.1 X.2.2.2.2.2.2.1 hP hD hS i he hq k0 hk (X.2.2.2.2.1 _ hlink) (fun _ h => h) hfin hin2 hdc (ty := ty) (v := v) (by rw [hds]; exact hty) hnr hft hk9 d (fun H1 locs1 hP1 hD1 hS1 => k H1 locs1 ls hS1 hP1 hD1 hl)
theorem k_aast (X : CK D ac w A p s m args meth c own cc nL) {ci t n a v : Nat} {q : vw_C} {vs : List Value} {f : Nat → Option Nat} {j : Int32} {ws' : va_W} (i i2 : Nat) (ha : ws[i]? = some (a, .inl (ac t, n, .inr (.inr (.inr (.inr f)))))) (ht9 : t < 9) (hc : gcl[ci]? = some q) (ht : tyA.getD t .int = .object q.1) (hv : ws[i2]? = some (v, .inr (ci, vs))) (hin : vp_in j n) (hw : ws.set i (a, .inl (ac t, n, .inr (.inr (.inr (.inr (va_up f j.toNatClampNeg (some v))))))) = ws') (d : decode cc pc = .ok (.aastore, 1))
    (k : TK D A p l e R s m args below meth c nL ce sl Q (pc + 1) lo st ws') : TK D A p l e R s m args below meth c nL ce sl Q pc lo (.ref v :: .int j :: .ref a :: st) ws := by
  intro H locs ls hS hP hD hl
  subst hw
  exact va_astq X.1 X.2.1 X.2.2.2.2.2.2.1 hP hD hS i t i2 ci ha (by rw [tysA_at ht9, ht]) hv hc hin d (fun H1 locs1 hP1 hD1 hS1 => k H1 locs1 ls hS1 hP1 hD1 hl)
theorem k_last (X : CK D ac w A p s m args meth c own cc nL) {n a : Nat} {f : Nat → Int64} {j : Int32} {x : Int64} {ws' : va_W} (i : Nat) (ha : ws[i]? = some (a, .inl (ac 3, n, .inr (.inl f)))) (hin : vp_in j n) (hw : ws.set i (a, .inl (ac 3, n, .inr (.inl (vp_updL f j.toNatClampNeg x)))) = ws') (d : decode cc pc = .ok (.lastore, 1))
    (k : TK D A p l e R s m args below meth c nL ce sl Q (pc + 1) lo st ws') : TK D A p l e R s m args below meth c nL ce sl Q pc lo (.long x :: .int j :: .ref a :: st) ws := by
  intro H locs ls hS hP hD hl
  subst hw
  exact va_last X.1 X.2.1 X.2.2.2.2.2.2.1 hP hD hS i 3 ha (by rw [tysA_at (by first | decide | simp)]; rfl) hin d (fun H1 locs1 hP1 hD1 hS1 => k H1 locs1 ls hS1 hP1 hD1 hl)
theorem k_getsW (X : CK D ac w A p s m args meth c own cc nL) {index : Nat} (i : Nat) (hi : i < wNames.length) (hw : Cond.fieldLink own index RX10 (wNames.getD i "") "LConverterScanner$Word;" ∈ gtb) (d : decode cc pc = .ok (.getstatic index, 3)) (k : TK D A p l e R s m args below meth c nL ce sl Q (pc + 3) lo (.ref (w i) :: st) ws) : TK D A p l e R s m args below meth c nL ce sl Q pc lo st ws :=
  fun H locs ls hS hP hD hl => va_gets X.1 X.2.1 (X.2.2.2.2.2.2.2.1.1.1 i hi).1 hS X.2.2.2.1 (X.2.2.2.2.1 _ hw) (fun _ h => h) d (k H locs ls hS hP hD hl)
/-! a constructor's contract -/
def rmK (d mc ms : Nat) : Room := { frames := d, cells := mc, slots := ms, locals := 36 * d }
def PcK (D : va_G) (ac : Nat → ClassId) (w : Nat → Nat) (avs : List Value) (ws : va_W) (sz : Nat) : Array Value → State → Prop := va_Pc avs (fun U => U.heap.size = sz ∧ va_K D gcl (tysA ac) U ∧ EN w (va_A ws sz) U U.heap ∧ va_P D gcl ws U.heap ∧ va_D (fun _ => True) ws ∧ BW U)
def QvK (D : va_G) (ws : va_W) (sz : Nat) (post : va_W → Prop) : Array Value → State → Outcome → State → Prop := va_Qv (S := va_W) post (fun w1 t => va_P D gcl w1 t.heap ∧ va_D (va_A ws sz) w1) (va_A ws sz)
theorem PcK_blind {avs : List Value} {sz : Nat} : FrameBlind (PcK D ac w avs ws sz) := fun a U g mk h => by
  obtain ⟨h0, h1, h2, h3, h4, h5, h6⟩ := h
  exact ⟨h0, h1, va_K.moved (u := U) (U := U.calling g mk a) (Vm.Alike.refl U.vm) h2, EN.moved (u := U) (U := U.calling g mk a) (Vm.Alike.refl U.vm) h3, h4, h5, BW.same (u := U) (U := U.calling g mk a) rfl h6⟩
theorem k_ret (X : CK D ac w A p s m args meth c own cc nL) (hr : meth.sig.returnType = none) (hlk : meth.locks = false) {ws0 : va_W} {sz mc ms : Nat} {post : va_W → Prop} (hA : A = va_A ws0 sz) (hp : post ws) (hc : ce ≤ mc ∧ sl ≤ ms) (d : decode cc pc = .ok (.return_, 1)) : TK D A p l e R s m args below meth c nL ce sl (MQ below (QvK D ws0 sz post) args s mc ms (va_A ws0 sz)) pc lo [] ws := by
  intro H locs ls hS hP hD hl
  subst hA
  exact W.widen hc.1 hc.2 (W.vret X.1 X.2.1 hr (fun t ht hw => ⟨⟨ws, rfl, hp, by rw [ht]; exact hP, hD⟩, hS.F ht⟩) hS.2.2 d hlk)
theorem kmet {y : MethodName} {rm : Room} {avs : List Value} {sz mc ms : Nat} {post : va_W → Prop} (hn : y.cls = own) (hp : plainName y.cls = true) (hlen : (lg_sl avs).length ≤ nL)
    (body : ∀ (p : Program) (e : Env) (s : State) (m : MethodId) (args : Array Value) (below : List Frame) (meth : Method) (c : Code), CK D ac w (va_A ws sz) p s m args meth c own cc nL → meth.name = y.name → meth.sig.returnType = none → meth.locks = false → TK D (va_A ws sz) p l e rm s m args below meth c nL 0 0 (MQ below (QvK D ws sz post) args s mc ms (va_A ws sz)) 0 (lv_args 0 avs) [] ws) :
    Met l y (wsO y cc nL none) rm (PcK D ac w avs ws sz) (QvK D ws sz post) mc ms (va_A ws sz) := by
  refine Met.ofW (cc := cc) (maxL := nL) (ret := none) hp rfl ?_
  intro p e s m args below meth c s₁ B hml hv
  obtain ⟨rfl, hsz, hK, hE, hP, hD, hBW⟩ := hv
  have hts := atoms_spec (ws := wsO y cc nL none) B.pre
  subst hsz
  have X : CK D ac w (va_A ws s.heap.size) p s m avs.toArray meth c own cc nL := ⟨B.exec, B.bytes, hml, by rw [← hn]; exact findClass_of_methodNamed B.named, fun w h => hts w (List.mem_cons_of_mem _ h), fun q h => Or.inr h, hK, hE, hBW⟩
  have hl := lv_entry avs (n := nL) hlen
  rw [lg_entry_eq]
  exact body p e s m avs.toArray below meth c X (name_of_methodNamed B.named B.method).1 B.returns B.notSynchronized s.heap [] _ va_S.rf hP hD.self hl
theorem pre_k (X : CK D ac w A p s m args meth c own cc nL) {X0 wc : va_W} {H : Heap} {locs : List Loc} {avs : List Value} (hS : va_S A s.heap H locs) (hP : va_P D gcl (X0 ++ wc) H) (hD : va_D A (X0 ++ wc)) (hF : ∀ q, va_A wc H.size q → A q) : ∀ U : State, U.heap = H → s.WarmedH U.vm → PcK D ac w avs wc H.size avs.toArray U := fun U hU hW =>
  ⟨rfl, by rw [hU], va_K.moved hW.alike X.2.2.2.2.2.2.1, by rw [hU]; exact EN.moved hW.alike ((X.2.2.2.2.2.2.2.1.kept fun a h1 h2 => hS.2.1 a h1 h2).narrow hF), by rw [hU]; exact (P_app hP).2, (hD.sub (plc X0.length wc.length) (plc_nd _ _) (plc_C X0 wc)).weaken (fun _ _ _ _ => trivial), BW.warm hW X.2.2.2.2.2.2.2.2⟩
theorem k_init (X : CK D ac w A p s m args meth c own cc nL) {y : MethodName} {cb : ByteArray} {n k idx : Nat} {rm : Room} {mc ms q : Nat} {X0 wc : va_W} {As st0 : List Value} {post : va_W → Prop} (my : MY y cb n none k) (hy : y.name = "<init>") (vi : Cond.instanceMethod y ∈ gtb) (ml : Cond.methodLink own idx y ∈ gtb) (hrc : rm.cells = mc) (hrs : rm.slots = ms) (hR : rm.frames + 1 ≤ R.frames ∧ 8 + (n + 11) + rm.locals ≤ R.locals ∧ ce + mc ≤ R.cells ∧ sl + ms ≤ R.slots)
    (hM : ∀ sz, Met l y (wsO y cb n none) rm (PcK D ac w (.ref q :: As) wc sz) (QvK D wc sz post) mc ms (va_A wc sz)) (hn : As.length = k) (hst : st0 = As.reverse ++ .ref q :: st) (hcat : (st.map fun v => v.category).sum ≤ 8) (d : decode cc pc = .ok (.invokespecial idx, 3))
    (kk : ∀ w1, post w1 → TK D A p l e R s m args below meth c nL (ce + mc) (sl + ms) Q (pc + 3) lo st (X0 ++ w1)) : TK D A p l e R s m args below meth c nL ce sl Q pc lo st0 (X0 ++ wc) := by
  intro H locs ls hS hP hD hl
  have hF := va_free (wc := wc) hD hS X.2.2.2.2.2.1 (plc X0.length wc.length) (plc_C X0 wc)
  refine va_callv (va_runI (As := As) (rest := st) ⟨X.1, X.2.1, X.2.2.1, X.2.2.2.1, X.2.2.2.2.1⟩ (hM H.size) ⟨callB_of k X.2.2.2.2.1 (fun w h => (List.mem_cons.mp h).elim (fun q => ⟨q ▸ my.1, q ▸ good_tbl my.1⟩) (fun q => ⟨q, good_tbl q⟩)) rfl hrc hrs (X.2.2.2.2.1 _ my.2.1) (X.2.2.2.2.1 _ ml) my.2.2.1 ⟨hR.1, hR.2.1⟩, hy, X.2.2.2.2.1 _ vi⟩ ⟨PcK_blind, pre_k X hS hP hD hF⟩ rfl hn hl.1 hst (lv_room hcat) d ⟨hR.2.2.1, hR.2.2.2⟩) hS (fun q _ h => hF q h) hF (fun w1 t H1 locs1 ht hvm hw hB hz hk hS1 => ?_)
  obtain ⟨hP1, hD1⟩ := hB
  rw [ht] at hP1
  obtain ⟨hP2, hD2⟩ := va_join (wr := X0) (w1 := w1) hP hD (plc X0.length wc.length) (plc 0 X0.length) (plc_C X0 wc) (plc_R X0 wc) (plc_nd _ _) (fun i h1 h2 => by have := plc_mem h1; have := plc_mem h2; omega) hk hF hP1 hD1
  exact kk w1 hw H1 locs1 ls hS1 hP2 hD2 hl
/-- of a nest mate -/
theorem k_initN (X : CK D ac w A p s m args meth c own cc nL) {y : MethodName} {cb : ByteArray} {n k idx : Nat} {rm : Room} {mc ms q : Nat} {X0 wc : va_W} {As st0 : List Value} {post : va_W → Prop} (my : MY y cb n none k) (hy : y.name = "<init>") (vi : Cond.instanceMethod y ∈ gtb) (ml : (own, idx, y) ∈ nestL) (hrc : rm.cells = mc) (hrs : rm.slots = ms) (hR : rm.frames + 1 ≤ R.frames ∧ 8 + (n + 11) + rm.locals ≤ R.locals ∧ ce + mc ≤ R.cells ∧ sl + ms ≤ R.slots)
    (hM : ∀ sz, Met l y (wsO y cb n none) rm (PcK D ac w (.ref q :: As) wc sz) (QvK D wc sz post) mc ms (va_A wc sz)) (hn : As.length = k) (hst : st0 = As.reverse ++ .ref q :: st) (hcat : (st.map fun v => v.category).sum ≤ 8) (d : decode cc pc = .ok (.invokespecial idx, 3))
    (kk : ∀ w1, post w1 → TK D A p l e R s m args below meth c nL (ce + mc) (sl + ms) Q (pc + 3) lo st (X0 ++ w1)) : TK D A p l e R s m args below meth c nL ce sl Q pc lo st0 (X0 ++ wc) := by
  intro H locs ls hS hP hD hl
  have hF := va_free (wc := wc) hD hS X.2.2.2.2.2.1 (plc X0.length wc.length) (plc_C X0 wc)
  refine va_callv (va_runIN (As := As) (rest := st) ⟨X.1, X.2.1, X.2.2.1, X.2.2.2.1, X.2.2.2.2.1⟩ (hM H.size) ⟨va_cnB k X.2.2.2.2.1 (fun w h => (List.mem_cons.mp h).elim (fun q => ⟨q ▸ my.1, q ▸ good_tbl my.1⟩) (fun q => ⟨q, good_tbl q⟩)) rfl hrc hrs (X.2.2.2.2.2.2.2.2.2 _ ml) (X.2.2.2.2.1 _ my.2.1) my.2.2.1 ⟨hR.1, hR.2.1⟩, hy, X.2.2.2.2.1 _ vi⟩ ⟨PcK_blind, pre_k X hS hP hD hF⟩ rfl hn hl.1 hst (lv_room hcat) d ⟨hR.2.2.1, hR.2.2.2⟩) hS (fun q _ h => hF q h) hF (fun w1 t H1 locs1 ht hvm hw hB hz hk hS1 => ?_)
  obtain ⟨hP1, hD1⟩ := hB
  rw [ht] at hP1
  obtain ⟨hP2, hD2⟩ := va_join (wr := X0) (w1 := w1) hP hD (plc X0.length wc.length) (plc 0 X0.length) (plc_C X0 wc) (plc_R X0 wc) (plc_nd _ _) (fun i h1 h2 => by have := plc_mem h1; have := plc_mem h2; omega) hk hF hP1 hD1
  exact kk w1 hw H1 locs1 ls hS1 hP2 hD2 hl
end KROWS
