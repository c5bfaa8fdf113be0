/-! THE CLAIM OUT OF ONE WALK OF THE LAW'S BODY. Your part is whole_start (and what it stands on); all else here is the same for every law, but numbers. -/
def R_law : String := "ConverterScannerLaw"
def lw_P (b : Addr) (xs : List Int32) (args : Array Value) (s : State) : Prop := args = #[.ref b] ∧ s.IntsAt b xs ∧ xs.length ≤ 3072 ∧ (Jvm.Cond.and given_1 narrow_1).before args s = true
/-- what a walk over the start with the record d0 says of its end, said of the start itself -/
theorem lw_closed {s t : State} {o : Outcome} {d0 : Drawn} {L : List Loc} {k n : Nat} (hd0 : s.drawn.sameBut d0 lw_cs) (hv : ∃ v, o = .returned v) (hW : (s.setDrawn d0).WarmedH t.vm) (hs : (s.setDrawn d0).sameButNew ({ t with vm := s.vm } : State) L k n) : State.butDraws s t lw_cs (fun t1 => Framed s o t1 L k n) := by
  have h2 : t.drawn = d0 := congrArg State.drawn hs.1
  refine ⟨⟨hv, hW, State.sameButNew.setDrawn hs s.drawn⟩, ?_, by decide⟩
  rw [h2]
  exact hd0
def lw_Q (_ : Array Value) (s : State) (o : Outcome) (t : State) : Prop := o = .returned (some (.int 1)) ∧ State.butDraws s t lw_cs (fun t1 => Framed s o t1 [] 601024 7293034)
def lw_Z (below : List Frame) (a : Array Value) (s : State) : State → Prop := fun t => ∃ o, t.status = .running ∧ Ended t below o ∧ lw_Q a s o t
/-- the law's own end, with 1 on the stack, nothing written that was there before, its room as the claim has it; d0: the record of draws at this point (at the entry s.drawn: begin with 'refine W.base ?_' and 'have hd0 := Drawn.sameBut.refl s.drawn lw_cs') -/
theorem lw_ret {p : Program} {l : Launch} {e : Env} {s : State} {m : MethodId} {below : List Frame} {meth : Method} {c : Code} {b : Nat} {d0 : Drawn} (hd0 : s.drawn.sameBut d0 lw_cs) (hx : p.tables.exec = Jvm.exec) (hb : c.code = code) (hr : meth.sig.returnType = ret) (hlocks : meth.locks = false) {pc : Nat} {H : Heap} {ls : Array Slot} (hdg : decode code pc = .ok (.ireturn, 1)) : W p l e room_1 (s.setDrawn d0) m #[Value.ref b] below meth c H [] 601024 7293034 (lw_Z below #[Value.ref b] s) (F0 m pc ls [.int 1]) := by
  intro T hT X
  obtain ⟨fs, hret, hrun, hended, hW, hframe⟩ := X.leave (v := some (.int 1)) (hlocks := hlocks) (fun h => by rw [hr] at h; cases h)
  have hmeth' : T.vm.method? m = some meth := X.method'
  refine ⟨T.setFrames fs, ?_, .returned (some (.int 1)), hrun, hended, rfl, lw_closed hd0 ⟨_, rfl⟩ hW hframe⟩
  jvm_step X.here [X.here.top, hx, hb, hdg, hmeth', hr, ret, narrow_b1]
  (try refine ⟨rfl, ?_⟩); (try refine ⟨rfl, ?_⟩)
  first | (intro acts; rw [hret _ acts rfl rfl rfl]) | rw [hret _ _ rfl rfl rfl]
  exact Steps.refl _
/-- what holds at the law's entry: the machine, the code, the tables' words (any of lw_tbl by 'hts w (by decide +kernel)'), the script of L ints xs at the cell b, what the Statement gives of the start (any of its parts by flat_of_before) -/
def lw_At (p : Program) (s : State) (m : MethodId) (meth : Method) (c : Code) (b L : Nat) (xs : Nat → Int32) : Prop :=
  p.tables.exec = Jvm.exec ∧ c.code = code ∧ meth.sig.returnType = ret ∧ c.maxLocals = 9 ∧ s.vm.findClass R_law = some m.cls ∧ (∀ w ∈ lw_tbl, w.before #[Value.ref b] s = true) ∧ va_X b L xs s s.heap ∧ b < s.heap.size ∧ meth.locks = false ∧ (Jvm.Cond.and given_1 narrow_1).before #[Value.ref b] s = true
/-! ===== ROWS of the law's body ===== -/
def AL (s : State) : Nat → Prop := fun q => s.heap.size ≤ q
section LROWS
variable {G : GG} {A : Nat → Prop} {p : Program} {l : Launch} {e : Env} {R : Room} {s : State} {m : MethodId} {args : Array Value} {below : List Frame} {meth : Method} {c : Code} {nL ce sl mc ms : Nat} {Q : State → Prop} {own : String} {cc : ByteArray}
  {pc : Nat} {lo : List (Nat × Value)} {st : List Value} {M : Mem} {Qc : Array Value → State → Outcome → State → Prop} {b L : Nat} {xs : Nat → Int32}
/-- the script stands where nothing is written -/
def CxL (A : Nat → Prop) (s : State) (b L : Nat) (xs : Nat → Int32) : Prop := va_X b L xs s s.heap ∧ b < s.heap.size ∧ ¬ A b
theorem r_sld (X : Cx G A p s m args meth c own cc nL) (Z : CxL A s b L xs) {i : Int32} {α : Type} {F : Option α} {r : α} (d : decode cc pc = .ok (.iaload, 1)) (h : (if bad i L then none else F) = some r) (kk : F = some r → T G A p l e R s m args below meth c nL ce sl Q (pc + 1) lo (.int (xs i.toNatClampNeg) :: st) M) : T G A p l e R s m args below meth c nL ce sl Q pc lo (.int i :: .ref b :: st) M :=
  ck h fun hb h => fun H locs ls hS hP hl => va_sld X.1 X.2.1 Z.1 Z.2.1 Z.2.2 hS hb d (kk h H locs ls hS hP hl)
theorem r_slen (X : Cx G A p s m args meth c own cc nL) (Z : CxL A s b L xs) (d : decode cc pc = .ok (.arraylength, 1)) (kk : T G A p l e R s m args below meth c nL ce sl Q (pc + 1) lo (.int (nI L) :: st) M) : T G A p l e R s m args below meth c nL ce sl Q pc lo (.ref b :: st) M :=
  fun H locs ls hS hP hl => va_slen X.1 X.2.1 Z.1 Z.2.1 Z.2.2 hS d (kk H locs ls hS hP hl)
theorem r_dald (X : Cx G A p s m args meth c own cc nL) {o : Oid} {n : Nat} {i : Int32} {α : Type} {F : Option α} {r : α} (ho : okO G.2.2.2.2 o) (ha : akO o = (4, n)) (h20 : ¬ o.1 < 20) (d : decode cc pc = .ok (.daload, 1)) (h : (if bad i n then none else F) = some r)
    (kk : F = some r → T G A p l e R s m args below meth c nL ce sl Q (pc + 1) lo (.double (M.2.2 o i.toNatClampNeg) :: st) M) : T G A p l e R s m args below meth c nL ce sl Q pc lo (.int i :: .ref (G.2.1 o) :: st) M := by
  intro H locs ls hS hP hl
  refine ck h fun hb h => ?_
  obtain ⟨j, -, hj⟩ := arr_at (G := G) ho h20 ha
  exact va_dald X.1 X.2.1 X.2.2.2.2.2.2.2.2.1 hP j 4 (hj M) (tys_at (by decide)) hb d (kk h H locs ls hS hP hl)
theorem r_dcmp (X : Cx G A p s m args meth c own cc nL) {x y : UInt64} (d : decode cc pc = .ok (.dcmp .l, 1)) (k : T G A p l e R s m args below meth c nL ce sl Q (pc + 1) lo (.int (Op.cmpValue (FP.dcmp x y) CmpOp.l) :: st) M) : T G A p l e R s m args below meth c nL ce sl Q pc lo (.double y :: .double x :: st) M :=
  fun H locs ls hS hP hl => lv_dcmp X.1 X.2.1 d (k H locs ls hS hP hl)
theorem r_dload (X : Cx G A p s m args meth c own cc nL) {i : Nat} {x : UInt64} (d : decode cc pc = .ok (.dload i, 2)) (hl : lk lo i = some (.double x)) (k : T G A p l e R s m args below meth c nL ce sl Q (pc + 2) lo (.double x :: st) M) : T G A p l e R s m args below meth c nL ce sl Q pc lo st M :=
  fun H locs ls hS hP hh => lv_dload X.1 X.2.1 d (lk_at hh hl) (k H locs ls hS hP hh)
theorem r_dstore (X : Cx G A p s m args meth c own cc nL) {i : Nat} {x : UInt64} (hn : i + 1 < nL) (d : decode cc pc = .ok (.dstore i, 2)) (k : T G A p l e R s m args below meth c nL ce sl Q (pc + 2) (lset2 i (.double x) lo) st M) : T G A p l e R s m args below meth c nL ce sl Q pc lo (.double x :: st) M :=
  fun H locs ls hS hP hh => lv_dstore X.1 X.2.1 d hh hn rfl (fun ls' h' => k H locs ls' hS hP h')
theorem ret0 {M M' : Mem} {P : Prop} (h : some ((0 : Int32), M) = some (1, M')) : P := by
  have h2 : (0 : Int32) = 1 := congrArg Prod.fst (Option.some.inj h)
  exact absurd h2 (by decide)
theorem r_lawret (X : Cx G (AL s) p s m #[Value.ref b] meth c own code nL) (hr : meth.sig.returnType = ret) (h1 : ce ≤ 601024) (h2 : sl ≤ 7293034) (d : decode code pc = .ok (.ireturn, 1)) : T G (AL s) p l e room_1 s m #[Value.ref b] below meth c nL ce sl (lw_Z below #[Value.ref b] s) pc lo [.int 1] M :=
  fun H locs ls hS hP hl => va_forget (fun q hq => hS.2.2 q hq) (W.widen h1 h2 (W.base (lw_ret (Drawn.sameBut.refl s.drawn lw_cs) X.1 X.2.1 hr X.2.2.2.2.2.1 d)))
/-- what the tables have of a method with handlers -/
def MYH (y : MethodName) (cc : ByteArray) (n : Nat) (ret : Option FieldType) (hh : List (Nat × Nat × Nat × Nat)) (k : Nat) : Prop := Cond.codeWith y cc n ret hh ∈ gtb ∧ Cond.initialized y.cls ∈ gtb ∧ (y.cls ≠ "java/lang/invoke/MethodHandle" ∧ y.cls ≠ "java/lang/invoke/VarHandle" ∧ (parseMethodDescriptor y.desc).map (fun d => d.parameters.length) = some k)
theorem r_callHS (X : Cx G A p s m args meth c own cc nL) (Y : CxH G A l s) {y : MethodName} {cb : ByteArray} {n k idx d k1 : Nat} {hh : List (Nat × Nat × Nat × Nat)} {As st0 : List Value} {r : Int32} {rt : FieldType} {M' : Mem} (vy : Cond.static y ∈ gtb) (my : MYH y cb n (some rt) hh k) (ml : Cond.methodLink own idx y ∈ gtb) (hR : d + 1 ≤ R.frames ∧ 8 + (n + 11) + 36 * d ≤ R.locals ∧ ce + k1 ≤ R.cells ∧ sl + 6 * k1 ≤ R.slots)
    (hM : ∀ sz, Met l y (wsH y cb n (some rt) hh) (rmX d k1) (PcX G sz As M) (QiO G (AX G sz) r M') k1 (6 * k1) (AX G sz)) (hn : As.length = k) (hst : st0 = As.reverse ++ st) (hcat : (st.map fun v => v.category).sum ≤ 8) (d : decode cc pc = .ok (.invokestatic idx, 3))
    (kk : T G A p l e R s m args below meth c nL (ce + k1) (sl + 6 * k1) Q (pc + 3) lo (.int r :: st) M') : T G A p l e R s m args below meth c nL ce sl Q pc lo st0 M := by
  intro H locs ls hS hP hl
  have hG : GoodIn gtb (va_wsS own idx y (wsH y cb n (some rt) hh)) := by
    intro v hv
    have hv2 : v ∈ gtb := by
      rcases List.mem_append.mp hv with hv | hv
      · simp only [List.mem_cons, List.not_mem_nil, or_false] at hv
        rcases hv with rfl | rfl | rfl
        · exact ml
        · exact vy
        · exact my.2.1
      · rcases List.mem_cons.mp hv with rfl | hv
        · exact my.1
        · exact hv
    exact ⟨hv2, good_tbl hv2⟩
  exact va_calli (vx_runSW (As := As) (rest := st) ⟨X.1, X.2.1, X.2.2.1, X.2.2.2.1, X.2.2.2.2.1⟩ (hM H.size) (vx_cwSW k X.2.2.2.2.1 hG rfl rfl rfl my.2.2 ⟨hR.1, hR.2.1⟩) ⟨PcX_blind, PcX_atH X Y hS hP⟩ rfl hn hl.1 hst (lv_room hcat) d ⟨hR.2.2.1, hR.2.2.2⟩) hS (fun q _ h => AX_subH X Y hS q h) (fun q h => AX_subH X Y hS q h) (fun r1 u t H1 locs1 ht hvm hw hB hz hk hS1 => by
    subst hw
    rw [ht] at hB
    exact kk H1 locs1 ls hS1 hB hl)
theorem r_callHS2 (X : Cx G A p s m args meth c own cc nL) (Y : CxH G A l s) {y : MethodName} {cb : ByteArray} {n idx d k1 : Nat} {hh : List (Nat × Nat × Nat × Nat)} {v1 v2 : Value} {r : Int32} {rt : FieldType} {M' : Mem} (vy : Cond.static y ∈ gtb) (my : MYH y cb n (some rt) hh 2) (ml : Cond.methodLink own idx y ∈ gtb) (hR : d + 1 ≤ R.frames ∧ 8 + (n + 11) + 36 * d ≤ R.locals ∧ ce + k1 ≤ R.cells ∧ sl + 6 * k1 ≤ R.slots)
    (hM : ∀ sz, Met l y (wsH y cb n (some rt) hh) (rmX d k1) (PcX G sz [v1, v2] M) (QiO G (AX G sz) r M') k1 (6 * k1) (AX G sz)) (hcat : (st.map fun v => v.category).sum ≤ 8) (d : decode cc pc = .ok (.invokestatic idx, 3))
    (kk : T G A p l e R s m args below meth c nL (ce + k1) (sl + 6 * k1) Q (pc + 3) lo (.int r :: st) M') : T G A p l e R s m args below meth c nL ce sl Q pc lo (v2 :: v1 :: st) M := r_callHS X Y (As := [v1, v2]) vy my ml hR hM rfl rfl hcat d kk
theorem r_callHS3 (X : Cx G A p s m args meth c own cc nL) (Y : CxH G A l s) {y : MethodName} {cb : ByteArray} {n idx d k1 : Nat} {hh : List (Nat × Nat × Nat × Nat)} {v1 v2 v3 : Value} {r : Int32} {rt : FieldType} {M' : Mem} (vy : Cond.static y ∈ gtb) (my : MYH y cb n (some rt) hh 3) (ml : Cond.methodLink own idx y ∈ gtb) (hR : d + 1 ≤ R.frames ∧ 8 + (n + 11) + 36 * d ≤ R.locals ∧ ce + k1 ≤ R.cells ∧ sl + 6 * k1 ≤ R.slots)
    (hM : ∀ sz, Met l y (wsH y cb n (some rt) hh) (rmX d k1) (PcX G sz [v1, v2, v3] M) (QiO G (AX G sz) r M') k1 (6 * k1) (AX G sz)) (hcat : (st.map fun v => v.category).sum ≤ 8) (d : decode cc pc = .ok (.invokestatic idx, 3))
    (kk : T G A p l e R s m args below meth c nL (ce + k1) (sl + 6 * k1) Q (pc + 3) lo (.int r :: st) M') : T G A p l e R s m args below meth c nL ce sl Q pc lo (v3 :: v2 :: v1 :: st) M := r_callHS X Y (As := [v1, v2, v3]) vy my ml hR hM rfl rfl hcat d kk
theorem r_callHS4 (X : Cx G A p s m args meth c own cc nL) (Y : CxH G A l s) {y : MethodName} {cb : ByteArray} {n idx d k1 : Nat} {hh : List (Nat × Nat × Nat × Nat)} {v1 v2 v3 v4 : Value} {r : Int32} {rt : FieldType} {M' : Mem} (vy : Cond.static y ∈ gtb) (my : MYH y cb n (some rt) hh 4) (ml : Cond.methodLink own idx y ∈ gtb) (hR : d + 1 ≤ R.frames ∧ 8 + (n + 11) + 36 * d ≤ R.locals ∧ ce + k1 ≤ R.cells ∧ sl + 6 * k1 ≤ R.slots)
    (hM : ∀ sz, Met l y (wsH y cb n (some rt) hh) (rmX d k1) (PcX G sz [v1, v2, v3, v4] M) (QiO G (AX G sz) r M') k1 (6 * k1) (AX G sz)) (hcat : (st.map fun v => v.category).sum ≤ 8) (d : decode cc pc = .ok (.invokestatic idx, 3))
    (kk : T G A p l e R s m args below meth c nL (ce + k1) (sl + 6 * k1) Q (pc + 3) lo (.int r :: st) M') : T G A p l e R s m args below meth c nL ce sl Q pc lo (v4 :: v3 :: v2 :: v1 :: st) M := r_callHS X Y (As := [v1, v2, v3, v4]) vy my ml hR hM rfl rfl hcat d kk
theorem r_callHS5 (X : Cx G A p s m args meth c own cc nL) (Y : CxH G A l s) {y : MethodName} {cb : ByteArray} {n idx d k1 : Nat} {hh : List (Nat × Nat × Nat × Nat)} {v1 v2 v3 v4 v5 : Value} {r : Int32} {rt : FieldType} {M' : Mem} (vy : Cond.static y ∈ gtb) (my : MYH y cb n (some rt) hh 5) (ml : Cond.methodLink own idx y ∈ gtb) (hR : d + 1 ≤ R.frames ∧ 8 + (n + 11) + 36 * d ≤ R.locals ∧ ce + k1 ≤ R.cells ∧ sl + 6 * k1 ≤ R.slots)
    (hM : ∀ sz, Met l y (wsH y cb n (some rt) hh) (rmX d k1) (PcX G sz [v1, v2, v3, v4, v5] M) (QiO G (AX G sz) r M') k1 (6 * k1) (AX G sz)) (hcat : (st.map fun v => v.category).sum ≤ 8) (d : decode cc pc = .ok (.invokestatic idx, 3))
    (kk : T G A p l e R s m args below meth c nL (ce + k1) (sl + 6 * k1) Q (pc + 3) lo (.int r :: st) M') : T G A p l e R s m args below meth c nL ce sl Q pc lo (v5 :: v4 :: v3 :: v2 :: v1 :: st) M := r_callHS X Y (As := [v1, v2, v3, v4, v5]) vy my ml hR hM rfl rfl hcat d kk
theorem r_callHS6 (X : Cx G A p s m args meth c own cc nL) (Y : CxH G A l s) {y : MethodName} {cb : ByteArray} {n idx d k1 : Nat} {hh : List (Nat × Nat × Nat × Nat)} {v1 v2 v3 v4 v5 v6 : Value} {r : Int32} {rt : FieldType} {M' : Mem} (vy : Cond.static y ∈ gtb) (my : MYH y cb n (some rt) hh 6) (ml : Cond.methodLink own idx y ∈ gtb) (hR : d + 1 ≤ R.frames ∧ 8 + (n + 11) + 36 * d ≤ R.locals ∧ ce + k1 ≤ R.cells ∧ sl + 6 * k1 ≤ R.slots)
    (hM : ∀ sz, Met l y (wsH y cb n (some rt) hh) (rmX d k1) (PcX G sz [v1, v2, v3, v4, v5, v6] M) (QiO G (AX G sz) r M') k1 (6 * k1) (AX G sz)) (hcat : (st.map fun v => v.category).sum ≤ 8) (d : decode cc pc = .ok (.invokestatic idx, 3))
    (kk : T G A p l e R s m args below meth c nL (ce + k1) (sl + 6 * k1) Q (pc + 3) lo (.int r :: st) M') : T G A p l e R s m args below meth c nL ce sl Q pc lo (v6 :: v5 :: v4 :: v3 :: v2 :: v1 :: st) M := r_callHS X Y (As := [v1, v2, v3, v4, v5, v6]) vy my ml hR hM rfl rfl hcat d kk
theorem r_callHS7 (X : Cx G A p s m args meth c own cc nL) (Y : CxH G A l s) {y : MethodName} {cb : ByteArray} {n idx d k1 : Nat} {hh : List (Nat × Nat × Nat × Nat)} {v1 v2 v3 v4 v5 v6 v7 : Value} {r : Int32} {rt : FieldType} {M' : Mem} (vy : Cond.static y ∈ gtb) (my : MYH y cb n (some rt) hh 7) (ml : Cond.methodLink own idx y ∈ gtb) (hR : d + 1 ≤ R.frames ∧ 8 + (n + 11) + 36 * d ≤ R.locals ∧ ce + k1 ≤ R.cells ∧ sl + 6 * k1 ≤ R.slots)
    (hM : ∀ sz, Met l y (wsH y cb n (some rt) hh) (rmX d k1) (PcX G sz [v1, v2, v3, v4, v5, v6, v7] M) (QiO G (AX G sz) r M') k1 (6 * k1) (AX G sz)) (hcat : (st.map fun v => v.category).sum ≤ 8) (d : decode cc pc = .ok (.invokestatic idx, 3))
    (kk : T G A p l e R s m args below meth c nL (ce + k1) (sl + 6 * k1) Q (pc + 3) lo (.int r :: st) M') : T G A p l e R s m args below meth c nL ce sl Q pc lo (v7 :: v6 :: v5 :: v4 :: v3 :: v2 :: v1 :: st) M := r_callHS X Y (As := [v1, v2, v3, v4, v5, v6, v7]) vy my ml hR hM rfl rfl hcat d kk
theorem r_callVd1 (X : Cx G A p s m args meth c own cc nL) {o : Oid} {y : MethodName} {cb : ByteArray} {n idx d : Nat} {v1 : Value} {r : UInt64} {M' : Mem} (ho : okO G.2.2.2.2 o) (hC : (gcl[o.1]?).map (fun q => q.1) = some y.cls) (vy : VY y) (my : MY y cb n (some .double) 1) (ml : Cond.methodLink own idx y ∈ gtb) (hR : d + 1 ≤ R.frames ∧ 8 + (n + 11) + 36 * d ≤ R.locals ∧ ce + 0 ≤ R.cells ∧ sl + 0 ≤ R.slots)
    (hM : Met l y (wsO y cb n (some .double)) (rmO d) (PcO G [.ref (G.2.1 o), v1] M) (QdO G (AA G) r M') 0 0 (AA G)) (hcat : (st.map fun v => v.category).sum ≤ 8) (d : decode cc pc = .ok (.invokevirtual idx, 3))
    (kk : T G A p l e R s m args below meth c nL ce sl Q (pc + 3) lo (.double r :: st) M') : T G A p l e R s m args below meth c nL ce sl Q pc lo (v1 :: .ref (G.2.1 o) :: st) M := by
  intro H locs ls hS hP hl
  exact va_calld (va_runV (As := [v1]) (rest := st) ⟨X.1, X.2.1, X.2.2.1, X.2.2.2.1, X.2.2.2.2.1⟩ hM ⟨callB_tbl X my ml ⟨hR.1, hR.2.1⟩, X.2.2.2.2.1 _ vy.1, X.2.2.2.2.1 _ vy.2⟩ ⟨PcO_blind, recv_at X hP ho hC, PcO_at X hS hP⟩ rfl rfl hl.1 rfl (lv_room hcat) d ⟨hR.2.2.1, hR.2.2.2⟩) hS (fun q _ h => X.2.2.2.2.2.2.1 q h) (fun q h => X.2.2.2.2.2.2.1 q h) (fun r1 u t H1 locs1 ht hvm hw hB hz hk hS1 => by
    subst hw
    rw [ht] at hB
    exact kk H1 locs1 ls hS1 hB hl)
end LROWS
