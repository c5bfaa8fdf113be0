/-! ===== CONTRACTS AND CALLS over the memory ===== -/
def wsO (y : MethodName) (cc : ByteArray) (n : Nat) (ret : Option FieldType) : List Cond := Cond.code y cc n ret :: gtb
def rmO (d : Nat) : Room := { frames := d, cells := 0, slots := 0, locals := 36 * d }
theorem good_tbl {w : Cond} (h : w ∈ gtb) : (w.onTables && w.keeps) = true ∨ ∃ ty, w = .arrayClass ty := good_of_word (List.mem_filter.mp h).2
def PcO (G : GG) (avs : List Value) (M : Mem) : Array Value → State → Prop := va_Pc avs (fun U => Inj G ∧ va_K G.1 gcl (tysG G) U ∧ EN G.2.2.2.1 (AA G) U U.heap ∧ va_P G.1 gcl (wl G M) U.heap)
theorem PcO_blind {G : GG} {avs : List Value} {M : Mem} : FrameBlind (PcO G avs M) := fun a U g mk h => by
  obtain ⟨h0, h1, h2, h3, h4⟩ := h
  exact ⟨h0, h1, va_K.moved (u := U) (U := U.calling g mk a) (Vm.Alike.refl U.vm) h2, EN.moved (u := U) (U := U.calling g mk a) (Vm.Alike.refl U.vm) h3, h4⟩
def QiO (G : GG) (A : Nat → Prop) (r : Int32) (M : Mem) : Array Value → State → Outcome → State → Prop := va_Qi (S := Unit) (fun x _ => x = r) (fun _ t => va_P G.1 gcl (wl G M) t.heap) A
def QlO (G : GG) (A : Nat → Prop) (r : Int64) (M : Mem) : Array Value → State → Outcome → State → Prop := va_Ql (S := Unit) (fun x _ => x = r) (fun _ t => va_P G.1 gcl (wl G M) t.heap) A
def QvO (G : GG) (A : Nat → Prop) (M : Mem) : Array Value → State → Outcome → State → Prop := va_Qv (S := Unit) (fun _ => True) (fun _ t => va_P G.1 gcl (wl G M) t.heap) A
def QrO (G : GG) (A : Nat → Prop) (a : Nat) (M : Mem) : Array Value → State → Outcome → State → Prop := va_Qr (S := Unit) (fun _ => True) (fun _ x t => x = a ∧ va_P G.1 gcl (wl G M) t.heap) A
/-- what the tables have of a method of ours -/
def MY (y : MethodName) (cc : ByteArray) (n : Nat) (ret : Option FieldType) (k : Nat) : Prop := Cond.code y cc n ret ∈ gtb ∧ Cond.initialized y.cls ∈ gtb ∧ (y.cls ≠ "java/lang/invoke/MethodHandle" ∧ y.cls ≠ "java/lang/invoke/VarHandle" ∧ (parseMethodDescriptor y.desc).map (fun d => d.parameters.length) = some k) ∧ plainName y.cls = true
def VY (y : MethodName) : Prop := Cond.instanceMethod y ∈ gtb ∧ Cond.selects y.cls y y ∈ gtb
section CALLS
variable {G : GG} {A : Nat → Prop} {p : Program} {l : Launch} {e : Env} {R : Room} {s : State} {m : MethodId} {args : Array Value} {below : List Frame} {meth : Method} {c : Code} {nL ce sl : Nat} {Q : State → Prop} {own : String} {cc : ByteArray}
  {pc : Nat} {lo : List (Nat × Value)} {st : List Value} {M : Mem}
theorem callB_tbl (X : Cx G A p s m args meth c own cc nL) {y : MethodName} {cb : ByteArray} {n k idx d : Nat} {ret : Option FieldType} (my : MY y cb n ret k) (ml : Cond.methodLink own idx y ∈ gtb) (hR : d + 1 ≤ R.frames ∧ 8 + (n + 11) + 36 * d ≤ R.locals) :
    CallB R s args own idx y cb n ret (wsO y cb n ret) (rmO d) 0 0 k :=
  callB_of k X.2.2.2.2.1 (fun w h => (List.mem_cons.mp h).elim (fun q => ⟨q ▸ my.1, q ▸ good_tbl my.1⟩) (fun q => ⟨q, good_tbl q⟩)) rfl rfl rfl (X.2.2.2.2.1 _ my.2.1) (X.2.2.2.2.1 _ ml) my.2.2.1 hR
theorem PcO_at (X : Cx G A p s m args meth c own cc nL) {H : Heap} {locs : List Loc} {avs : List Value} (hS : va_S A s.heap H locs) (hP : va_P G.1 gcl (wl G M) H) : ∀ U : State, U.heap = H → s.WarmedH U.vm → PcO G avs M avs.toArray U := fun U hU hW =>
  ⟨rfl, X.2.2.2.2.2.2.2.1, va_K.moved hW.alike X.2.2.2.2.2.2.2.2.1, by rw [hU]; exact EN.moved hW.alike ((X.2.2.2.2.2.2.2.2.2.kept fun a h1 h2 => hS.2.1 a h1 h2).narrow X.2.2.2.2.2.2.1), by rw [hU]; exact hP⟩
theorem recv_at (X : Cx G A p s m args meth c own cc nL) {H : Heap} {o : Oid} {C : String} (hP : va_P G.1 gcl (wl G M) H) (ho : okO G.2.2.2.2 o) (hC : (gcl[o.1]?).map (fun q => q.1) = some C) : ∃ cell : Cell, H[G.2.1 o]? = some cell ∧ cell.vm.isStatics = false ∧ s.vm.findClass C = some cell.cls := by
  cases hq : gcl[o.1]? with
  | none => rw [hq] at hC; cases hC
  | some q =>
    rw [hq] at hC
    obtain ⟨i, -, hi⟩ := wl_at (G := G) ho
    have he := hi M
    rw [ent_obj (gcl_at hq).2.2.2.2] at he
    have h := va_recv X.2.2.2.2.2.2.2.2.1 hP hq he
    have hC' : q.1 = C := Option.some.inj hC
    rw [hC'] at h
    exact h

theorem r_callVi (X : Cx G A p s m args meth c own cc nL) {o : Oid} {y : MethodName} {cb : ByteArray} {n k idx d : Nat} {As st0 : List Value} {r : Int32} {rt : FieldType} {M' : Mem} (ho : okO G.2.2.2.2 o) (hC : (gcl[o.1]?).map (fun q => q.1) = some y.cls) (vy : VY y) (my : MY y cb n (some rt) k) (ml : Cond.methodLink own idx y ∈ gtb) (hR : d + 1 ≤ R.frames ∧ 8 + (n + 11) + 36 * d ≤ R.locals ∧ ce + 0 ≤ R.cells ∧ sl + 0 ≤ R.slots)
    (hM : Met l y (wsO y cb n (some rt)) (rmO d) (PcO G (.ref (G.2.1 o) :: As) M) (QiO G (AA G) r M') 0 0 (AA G)) (hn : As.length = k) (hst : st0 = As.reverse ++ .ref (G.2.1 o) :: st) (hcat : (st.map fun v => v.category).sum ≤ 8) (d : decode cc pc = .ok (.invokevirtual idx, 3))
    (kk : T G A p l e R s m args below meth c nL ce sl Q (pc + 3) lo (.int r :: st) M') : T G A p l e R s m args below meth c nL ce sl Q pc lo st0 M := by
  intro H locs ls hS hP hl
  exact va_calli (va_runV (As := As) (rest := st) ⟨X.1, X.2.1, X.2.2.1, X.2.2.2.1, X.2.2.2.2.1⟩ hM ⟨callB_tbl X my ml ⟨hR.1, hR.2.1⟩, X.2.2.2.2.1 _ vy.1, X.2.2.2.2.1 _ vy.2⟩ ⟨PcO_blind, recv_at X hP ho hC, PcO_at X hS hP⟩ rfl hn hl.1 hst (lv_room hcat) d ⟨hR.2.2.1, hR.2.2.2⟩) hS (fun q _ h => X.2.2.2.2.2.2.1 q h) (fun q h => X.2.2.2.2.2.2.1 q h) (fun r1 u t H1 locs1 ht hvm hw hB hz hk hS1 => by
    subst hw
    rw [ht] at hB
    exact kk H1 locs1 ls hS1 hB hl)
theorem r_callVi0 (X : Cx G A p s m args meth c own cc nL) {o : Oid} {y : MethodName} {cb : ByteArray} {n idx d : Nat} {r : Int32} {rt : FieldType} {M' : Mem} (ho : okO G.2.2.2.2 o) (hC : (gcl[o.1]?).map (fun q => q.1) = some y.cls) (vy : VY y) (my : MY y cb n (some rt) 0) (ml : Cond.methodLink own idx y ∈ gtb) (hR : d + 1 ≤ R.frames ∧ 8 + (n + 11) + 36 * d ≤ R.locals ∧ ce + 0 ≤ R.cells ∧ sl + 0 ≤ R.slots)
    (hM : Met l y (wsO y cb n (some rt)) (rmO d) (PcO G (.ref (G.2.1 o) :: []) M) (QiO G (AA G) r M') 0 0 (AA G)) (hcat : (st.map fun v => v.category).sum ≤ 8) (d : decode cc pc = .ok (.invokevirtual idx, 3))
    (kk : T G A p l e R s m args below meth c nL ce sl Q (pc + 3) lo (.int r :: st) M') : T G A p l e R s m args below meth c nL ce sl Q pc lo (.ref (G.2.1 o) :: st) M :=
  r_callVi X (As := []) ho hC vy my ml hR hM rfl rfl hcat d kk
theorem r_callVi1 (X : Cx G A p s m args meth c own cc nL) {o : Oid} {y : MethodName} {cb : ByteArray} {n idx d : Nat} {v1 : Value} {r : Int32} {rt : FieldType} {M' : Mem} (ho : okO G.2.2.2.2 o) (hC : (gcl[o.1]?).map (fun q => q.1) = some y.cls) (vy : VY y) (my : MY y cb n (some rt) 1) (ml : Cond.methodLink own idx y ∈ gtb) (hR : d + 1 ≤ R.frames ∧ 8 + (n + 11) + 36 * d ≤ R.locals ∧ ce + 0 ≤ R.cells ∧ sl + 0 ≤ R.slots)
    (hM : Met l y (wsO y cb n (some rt)) (rmO d) (PcO G (.ref (G.2.1 o) :: [v1]) M) (QiO G (AA G) r M') 0 0 (AA G)) (hcat : (st.map fun v => v.category).sum ≤ 8) (d : decode cc pc = .ok (.invokevirtual idx, 3))
    (kk : T G A p l e R s m args below meth c nL ce sl Q (pc + 3) lo (.int r :: st) M') : T G A p l e R s m args below meth c nL ce sl Q pc lo (v1 :: .ref (G.2.1 o) :: st) M :=
  r_callVi X (As := [v1]) ho hC vy my ml hR hM rfl rfl hcat d kk
theorem r_callVi2 (X : Cx G A p s m args meth c own cc nL) {o : Oid} {y : MethodName} {cb : ByteArray} {n idx d : Nat} {v1 v2 : Value} {r : Int32} {rt : FieldType} {M' : Mem} (ho : okO G.2.2.2.2 o) (hC : (gcl[o.1]?).map (fun q => q.1) = some y.cls) (vy : VY y) (my : MY y cb n (some rt) 2) (ml : Cond.methodLink own idx y ∈ gtb) (hR : d + 1 ≤ R.frames ∧ 8 + (n + 11) + 36 * d ≤ R.locals ∧ ce + 0 ≤ R.cells ∧ sl + 0 ≤ R.slots)
    (hM : Met l y (wsO y cb n (some rt)) (rmO d) (PcO G (.ref (G.2.1 o) :: [v1, v2]) M) (QiO G (AA G) r M') 0 0 (AA G)) (hcat : (st.map fun v => v.category).sum ≤ 8) (d : decode cc pc = .ok (.invokevirtual idx, 3))
    (kk : T G A p l e R s m args below meth c nL ce sl Q (pc + 3) lo (.int r :: st) M') : T G A p l e R s m args below meth c nL ce sl Q pc lo (v2 :: v1 :: .ref (G.2.1 o) :: st) M :=
  r_callVi X (As := [v1, v2]) ho hC vy my ml hR hM rfl rfl hcat d kk
theorem r_callVi3 (X : Cx G A p s m args meth c own cc nL) {o : Oid} {y : MethodName} {cb : ByteArray} {n idx d : Nat} {v1 v2 v3 : Value} {r : Int32} {rt : FieldType} {M' : Mem} (ho : okO G.2.2.2.2 o) (hC : (gcl[o.1]?).map (fun q => q.1) = some y.cls) (vy : VY y) (my : MY y cb n (some rt) 3) (ml : Cond.methodLink own idx y ∈ gtb) (hR : d + 1 ≤ R.frames ∧ 8 + (n + 11) + 36 * d ≤ R.locals ∧ ce + 0 ≤ R.cells ∧ sl + 0 ≤ R.slots)
    (hM : Met l y (wsO y cb n (some rt)) (rmO d) (PcO G (.ref (G.2.1 o) :: [v1, v2, v3]) M) (QiO G (AA G) r M') 0 0 (AA G)) (hcat : (st.map fun v => v.category).sum ≤ 8) (d : decode cc pc = .ok (.invokevirtual idx, 3))
    (kk : T G A p l e R s m args below meth c nL ce sl Q (pc + 3) lo (.int r :: st) M') : T G A p l e R s m args below meth c nL ce sl Q pc lo (v3 :: v2 :: v1 :: .ref (G.2.1 o) :: st) M :=
  r_callVi X (As := [v1, v2, v3]) ho hC vy my ml hR hM rfl rfl hcat d kk
theorem r_callVi4 (X : Cx G A p s m args meth c own cc nL) {o : Oid} {y : MethodName} {cb : ByteArray} {n idx d : Nat} {v1 v2 v3 v4 : Value} {r : Int32} {rt : FieldType} {M' : Mem} (ho : okO G.2.2.2.2 o) (hC : (gcl[o.1]?).map (fun q => q.1) = some y.cls) (vy : VY y) (my : MY y cb n (some rt) 4) (ml : Cond.methodLink own idx y ∈ gtb) (hR : d + 1 ≤ R.frames ∧ 8 + (n + 11) + 36 * d ≤ R.locals ∧ ce + 0 ≤ R.cells ∧ sl + 0 ≤ R.slots)
    (hM : Met l y (wsO y cb n (some rt)) (rmO d) (PcO G (.ref (G.2.1 o) :: [v1, v2, v3, v4]) M) (QiO G (AA G) r M') 0 0 (AA G)) (hcat : (st.map fun v => v.category).sum ≤ 8) (d : decode cc pc = .ok (.invokevirtual idx, 3))
    (kk : T G A p l e R s m args below meth c nL ce sl Q (pc + 3) lo (.int r :: st) M') : T G A p l e R s m args below meth c nL ce sl Q pc lo (v4 :: v3 :: v2 :: v1 :: .ref (G.2.1 o) :: st) M :=
  r_callVi X (As := [v1, v2, v3, v4]) ho hC vy my ml hR hM rfl rfl hcat d kk
theorem r_callVi5 (X : Cx G A p s m args meth c own cc nL) {o : Oid} {y : MethodName} {cb : ByteArray} {n idx d : Nat} {v1 v2 v3 v4 v5 : Value} {r : Int32} {rt : FieldType} {M' : Mem} (ho : okO G.2.2.2.2 o) (hC : (gcl[o.1]?).map (fun q => q.1) = some y.cls) (vy : VY y) (my : MY y cb n (some rt) 5) (ml : Cond.methodLink own idx y ∈ gtb) (hR : d + 1 ≤ R.frames ∧ 8 + (n + 11) + 36 * d ≤ R.locals ∧ ce + 0 ≤ R.cells ∧ sl + 0 ≤ R.slots)
    (hM : Met l y (wsO y cb n (some rt)) (rmO d) (PcO G (.ref (G.2.1 o) :: [v1, v2, v3, v4, v5]) M) (QiO G (AA G) r M') 0 0 (AA G)) (hcat : (st.map fun v => v.category).sum ≤ 8) (d : decode cc pc = .ok (.invokevirtual idx, 3))
    (kk : T G A p l e R s m args below meth c nL ce sl Q (pc + 3) lo (.int r :: st) M') : T G A p l e R s m args below meth c nL ce sl Q pc lo (v5 :: v4 :: v3 :: v2 :: v1 :: .ref (G.2.1 o) :: st) M :=
  r_callVi X (As := [v1, v2, v3, v4, v5]) ho hC vy my ml hR hM rfl rfl hcat d kk
theorem r_callSi (X : Cx G A p s m args meth c own cc nL) {y : MethodName} {cb : ByteArray} {n k idx d : Nat} {As st0 : List Value} {r : Int32} {rt : FieldType} {M' : Mem} (vy : Cond.static y ∈ gtb) (my : MY y cb n (some rt) k) (ml : Cond.methodLink own idx y ∈ gtb) (hR : d + 1 ≤ R.frames ∧ 8 + (n + 11) + 36 * d ≤ R.locals ∧ ce + 0 ≤ R.cells ∧ sl + 0 ≤ R.slots)
    (hM : Met l y (wsO y cb n (some rt)) (rmO d) (PcO G As M) (QiO G (AA G) r M') 0 0 (AA G)) (hn : As.length = k) (hst : st0 = As.reverse ++ st) (hcat : (st.map fun v => v.category).sum ≤ 8) (d : decode cc pc = .ok (.invokestatic idx, 3))
    (kk : T G A p l e R s m args below meth c nL ce sl Q (pc + 3) lo (.int r :: st) M') : T G A p l e R s m args below meth c nL ce sl Q pc lo st0 M := by
  intro H locs ls hS hP hl
  exact va_calli (va_runS (As := As) (rest := st) ⟨X.1, X.2.1, X.2.2.1, X.2.2.2.1, X.2.2.2.2.1⟩ hM ⟨callB_tbl X my ml ⟨hR.1, hR.2.1⟩, X.2.2.2.2.1 _ vy⟩ ⟨PcO_blind, PcO_at X hS hP⟩ rfl hn hl.1 hst (lv_room hcat) d ⟨hR.2.2.1, hR.2.2.2⟩) hS (fun q _ h => X.2.2.2.2.2.2.1 q h) (fun q h => X.2.2.2.2.2.2.1 q h) (fun r1 u t H1 locs1 ht hvm hw hB hz hk hS1 => by
    subst hw
    rw [ht] at hB
    exact kk H1 locs1 ls hS1 hB hl)
theorem r_callSi0 (X : Cx G A p s m args meth c own cc nL) {y : MethodName} {cb : ByteArray} {n idx d : Nat} {r : Int32} {rt : FieldType} {M' : Mem} (vy : Cond.static y ∈ gtb) (my : MY y cb n (some rt) 0) (ml : Cond.methodLink own idx y ∈ gtb) (hR : d + 1 ≤ R.frames ∧ 8 + (n + 11) + 36 * d ≤ R.locals ∧ ce + 0 ≤ R.cells ∧ sl + 0 ≤ R.slots)
    (hM : Met l y (wsO y cb n (some rt)) (rmO d) (PcO G [] M) (QiO G (AA G) r M') 0 0 (AA G)) (hcat : (st.map fun v => v.category).sum ≤ 8) (d : decode cc pc = .ok (.invokestatic idx, 3))
    (kk : T G A p l e R s m args below meth c nL ce sl Q (pc + 3) lo (.int r :: st) M') : T G A p l e R s m args below meth c nL ce sl Q pc lo (st) M :=
  r_callSi X (As := []) vy my ml hR hM rfl rfl hcat d kk
theorem r_callSi1 (X : Cx G A p s m args meth c own cc nL) {y : MethodName} {cb : ByteArray} {n idx d : Nat} {v1 : Value} {r : Int32} {rt : FieldType} {M' : Mem} (vy : Cond.static y ∈ gtb) (my : MY y cb n (some rt) 1) (ml : Cond.methodLink own idx y ∈ gtb) (hR : d + 1 ≤ R.frames ∧ 8 + (n + 11) + 36 * d ≤ R.locals ∧ ce + 0 ≤ R.cells ∧ sl + 0 ≤ R.slots)
    (hM : Met l y (wsO y cb n (some rt)) (rmO d) (PcO G [v1] M) (QiO G (AA G) r M') 0 0 (AA G)) (hcat : (st.map fun v => v.category).sum ≤ 8) (d : decode cc pc = .ok (.invokestatic idx, 3))
    (kk : T G A p l e R s m args below meth c nL ce sl Q (pc + 3) lo (.int r :: st) M') : T G A p l e R s m args below meth c nL ce sl Q pc lo (v1 :: st) M :=
  r_callSi X (As := [v1]) vy my ml hR hM rfl rfl hcat d kk
theorem r_callSi2 (X : Cx G A p s m args meth c own cc nL) {y : MethodName} {cb : ByteArray} {n idx d : Nat} {v1 v2 : Value} {r : Int32} {rt : FieldType} {M' : Mem} (vy : Cond.static y ∈ gtb) (my : MY y cb n (some rt) 2) (ml : Cond.methodLink own idx y ∈ gtb) (hR : d + 1 ≤ R.frames ∧ 8 + (n + 11) + 36 * d ≤ R.locals ∧ ce + 0 ≤ R.cells ∧ sl + 0 ≤ R.slots)
    (hM : Met l y (wsO y cb n (some rt)) (rmO d) (PcO G [v1, v2] M) (QiO G (AA G) r M') 0 0 (AA G)) (hcat : (st.map fun v => v.category).sum ≤ 8) (d : decode cc pc = .ok (.invokestatic idx, 3))
    (kk : T G A p l e R s m args below meth c nL ce sl Q (pc + 3) lo (.int r :: st) M') : T G A p l e R s m args below meth c nL ce sl Q pc lo (v2 :: v1 :: st) M :=
  r_callSi X (As := [v1, v2]) vy my ml hR hM rfl rfl hcat d kk
theorem r_callSi3 (X : Cx G A p s m args meth c own cc nL) {y : MethodName} {cb : ByteArray} {n idx d : Nat} {v1 v2 v3 : Value} {r : Int32} {rt : FieldType} {M' : Mem} (vy : Cond.static y ∈ gtb) (my : MY y cb n (some rt) 3) (ml : Cond.methodLink own idx y ∈ gtb) (hR : d + 1 ≤ R.frames ∧ 8 + (n + 11) + 36 * d ≤ R.locals ∧ ce + 0 ≤ R.cells ∧ sl + 0 ≤ R.slots)
    (hM : Met l y (wsO y cb n (some rt)) (rmO d) (PcO G [v1, v2, v3] M) (QiO G (AA G) r M') 0 0 (AA G)) (hcat : (st.map fun v => v.category).sum ≤ 8) (d : decode cc pc = .ok (.invokestatic idx, 3))
    (kk : T G A p l e R s m args below meth c nL ce sl Q (pc + 3) lo (.int r :: st) M') : T G A p l e R s m args below meth c nL ce sl Q pc lo (v3 :: v2 :: v1 :: st) M :=
  r_callSi X (As := [v1, v2, v3]) vy my ml hR hM rfl rfl hcat d kk
theorem r_callSi4 (X : Cx G A p s m args meth c own cc nL) {y : MethodName} {cb : ByteArray} {n idx d : Nat} {v1 v2 v3 v4 : Value} {r : Int32} {rt : FieldType} {M' : Mem} (vy : Cond.static y ∈ gtb) (my : MY y cb n (some rt) 4) (ml : Cond.methodLink own idx y ∈ gtb) (hR : d + 1 ≤ R.frames ∧ 8 + (n + 11) + 36 * d ≤ R.locals ∧ ce + 0 ≤ R.cells ∧ sl + 0 ≤ R.slots)
    (hM : Met l y (wsO y cb n (some rt)) (rmO d) (PcO G [v1, v2, v3, v4] M) (QiO G (AA G) r M') 0 0 (AA G)) (hcat : (st.map fun v => v.category).sum ≤ 8) (d : decode cc pc = .ok (.invokestatic idx, 3))
    (kk : T G A p l e R s m args below meth c nL ce sl Q (pc + 3) lo (.int r :: st) M') : T G A p l e R s m args below meth c nL ce sl Q pc lo (v4 :: v3 :: v2 :: v1 :: st) M :=
  r_callSi X (As := [v1, v2, v3, v4]) vy my ml hR hM rfl rfl hcat d kk
theorem r_callSi5 (X : Cx G A p s m args meth c own cc nL) {y : MethodName} {cb : ByteArray} {n idx d : Nat} {v1 v2 v3 v4 v5 : Value} {r : Int32} {rt : FieldType} {M' : Mem} (vy : Cond.static y ∈ gtb) (my : MY y cb n (some rt) 5) (ml : Cond.methodLink own idx y ∈ gtb) (hR : d + 1 ≤ R.frames ∧ 8 + (n + 11) + 36 * d ≤ R.locals ∧ ce + 0 ≤ R.cells ∧ sl + 0 ≤ R.slots)
    (hM : Met l y (wsO y cb n (some rt)) (rmO d) (PcO G [v1, v2, v3, v4, v5] M) (QiO G (AA G) r M') 0 0 (AA G)) (hcat : (st.map fun v => v.category).sum ≤ 8) (d : decode cc pc = .ok (.invokestatic idx, 3))
    (kk : T G A p l e R s m args below meth c nL ce sl Q (pc + 3) lo (.int r :: st) M') : T G A p l e R s m args below meth c nL ce sl Q pc lo (v5 :: v4 :: v3 :: v2 :: v1 :: st) M :=
  r_callSi X (As := [v1, v2, v3, v4, v5]) vy my ml hR hM rfl rfl hcat d kk
theorem r_callVl (X : Cx G A p s m args meth c own cc nL) {o : Oid} {y : MethodName} {cb : ByteArray} {n k idx d : Nat} {As st0 : List Value} {r : Int64} {M' : Mem} (ho : okO G.2.2.2.2 o) (hC : (gcl[o.1]?).map (fun q => q.1) = some y.cls) (vy : VY y) (my : MY y cb n (some .long) k) (ml : Cond.methodLink own idx y ∈ gtb) (hR : d + 1 ≤ R.frames ∧ 8 + (n + 11) + 36 * d ≤ R.locals ∧ ce + 0 ≤ R.cells ∧ sl + 0 ≤ R.slots)
    (hM : Met l y (wsO y cb n (some .long)) (rmO d) (PcO G (.ref (G.2.1 o) :: As) M) (QlO G (AA G) r M') 0 0 (AA G)) (hn : As.length = k) (hst : st0 = As.reverse ++ .ref (G.2.1 o) :: st) (hcat : (st.map fun v => v.category).sum ≤ 8) (d : decode cc pc = .ok (.invokevirtual idx, 3))
    (kk : T G A p l e R s m args below meth c nL ce sl Q (pc + 3) lo (.long r :: st) M') : T G A p l e R s m args below meth c nL ce sl Q pc lo st0 M := by
  intro H locs ls hS hP hl
  exact va_calll (va_runV (As := As) (rest := st) ⟨X.1, X.2.1, X.2.2.1, X.2.2.2.1, X.2.2.2.2.1⟩ hM ⟨callB_tbl X my ml ⟨hR.1, hR.2.1⟩, X.2.2.2.2.1 _ vy.1, X.2.2.2.2.1 _ vy.2⟩ ⟨PcO_blind, recv_at X hP ho hC, PcO_at X hS hP⟩ rfl hn hl.1 hst (lv_room hcat) d ⟨hR.2.2.1, hR.2.2.2⟩) hS (fun q _ h => X.2.2.2.2.2.2.1 q h) (fun q h => X.2.2.2.2.2.2.1 q h) (fun r1 u t H1 locs1 ht hvm hw hB hz hk hS1 => by
    subst hw
    rw [ht] at hB
    exact kk H1 locs1 ls hS1 hB hl)
theorem r_callVl0 (X : Cx G A p s m args meth c own cc nL) {o : Oid} {y : MethodName} {cb : ByteArray} {n idx d : Nat} {r : Int64} {M' : Mem} (ho : okO G.2.2.2.2 o) (hC : (gcl[o.1]?).map (fun q => q.1) = some y.cls) (vy : VY y) (my : MY y cb n (some .long) 0) (ml : Cond.methodLink own idx y ∈ gtb) (hR : d + 1 ≤ R.frames ∧ 8 + (n + 11) + 36 * d ≤ R.locals ∧ ce + 0 ≤ R.cells ∧ sl + 0 ≤ R.slots)
    (hM : Met l y (wsO y cb n (some .long)) (rmO d) (PcO G (.ref (G.2.1 o) :: []) M) (QlO G (AA G) r M') 0 0 (AA G)) (hcat : (st.map fun v => v.category).sum ≤ 8) (d : decode cc pc = .ok (.invokevirtual idx, 3))
    (kk : T G A p l e R s m args below meth c nL ce sl Q (pc + 3) lo (.long r :: st) M') : T G A p l e R s m args below meth c nL ce sl Q pc lo (.ref (G.2.1 o) :: st) M :=
  r_callVl X (As := []) ho hC vy my ml hR hM rfl rfl hcat d kk
theorem r_callVl1 (X : Cx G A p s m args meth c own cc nL) {o : Oid} {y : MethodName} {cb : ByteArray} {n idx d : Nat} {v1 : Value} {r : Int64} {M' : Mem} (ho : okO G.2.2.2.2 o) (hC : (gcl[o.1]?).map (fun q => q.1) = some y.cls) (vy : VY y) (my : MY y cb n (some .long) 1) (ml : Cond.methodLink own idx y ∈ gtb) (hR : d + 1 ≤ R.frames ∧ 8 + (n + 11) + 36 * d ≤ R.locals ∧ ce + 0 ≤ R.cells ∧ sl + 0 ≤ R.slots)
    (hM : Met l y (wsO y cb n (some .long)) (rmO d) (PcO G (.ref (G.2.1 o) :: [v1]) M) (QlO G (AA G) r M') 0 0 (AA G)) (hcat : (st.map fun v => v.category).sum ≤ 8) (d : decode cc pc = .ok (.invokevirtual idx, 3))
    (kk : T G A p l e R s m args below meth c nL ce sl Q (pc + 3) lo (.long r :: st) M') : T G A p l e R s m args below meth c nL ce sl Q pc lo (v1 :: .ref (G.2.1 o) :: st) M :=
  r_callVl X (As := [v1]) ho hC vy my ml hR hM rfl rfl hcat d kk
theorem r_callVl2 (X : Cx G A p s m args meth c own cc nL) {o : Oid} {y : MethodName} {cb : ByteArray} {n idx d : Nat} {v1 v2 : Value} {r : Int64} {M' : Mem} (ho : okO G.2.2.2.2 o) (hC : (gcl[o.1]?).map (fun q => q.1) = some y.cls) (vy : VY y) (my : MY y cb n (some .long) 2) (ml : Cond.methodLink own idx y ∈ gtb) (hR : d + 1 ≤ R.frames ∧ 8 + (n + 11) + 36 * d ≤ R.locals ∧ ce + 0 ≤ R.cells ∧ sl + 0 ≤ R.slots)
    (hM : Met l y (wsO y cb n (some .long)) (rmO d) (PcO G (.ref (G.2.1 o) :: [v1, v2]) M) (QlO G (AA G) r M') 0 0 (AA G)) (hcat : (st.map fun v => v.category).sum ≤ 8) (d : decode cc pc = .ok (.invokevirtual idx, 3))
    (kk : T G A p l e R s m args below meth c nL ce sl Q (pc + 3) lo (.long r :: st) M') : T G A p l e R s m args below meth c nL ce sl Q pc lo (v2 :: v1 :: .ref (G.2.1 o) :: st) M :=
  r_callVl X (As := [v1, v2]) ho hC vy my ml hR hM rfl rfl hcat d kk
theorem r_callVl3 (X : Cx G A p s m args meth c own cc nL) {o : Oid} {y : MethodName} {cb : ByteArray} {n idx d : Nat} {v1 v2 v3 : Value} {r : Int64} {M' : Mem} (ho : okO G.2.2.2.2 o) (hC : (gcl[o.1]?).map (fun q => q.1) = some y.cls) (vy : VY y) (my : MY y cb n (some .long) 3) (ml : Cond.methodLink own idx y ∈ gtb) (hR : d + 1 ≤ R.frames ∧ 8 + (n + 11) + 36 * d ≤ R.locals ∧ ce + 0 ≤ R.cells ∧ sl + 0 ≤ R.slots)
    (hM : Met l y (wsO y cb n (some .long)) (rmO d) (PcO G (.ref (G.2.1 o) :: [v1, v2, v3]) M) (QlO G (AA G) r M') 0 0 (AA G)) (hcat : (st.map fun v => v.category).sum ≤ 8) (d : decode cc pc = .ok (.invokevirtual idx, 3))
    (kk : T G A p l e R s m args below meth c nL ce sl Q (pc + 3) lo (.long r :: st) M') : T G A p l e R s m args below meth c nL ce sl Q pc lo (v3 :: v2 :: v1 :: .ref (G.2.1 o) :: st) M :=
  r_callVl X (As := [v1, v2, v3]) ho hC vy my ml hR hM rfl rfl hcat d kk
theorem r_callVl4 (X : Cx G A p s m args meth c own cc nL) {o : Oid} {y : MethodName} {cb : ByteArray} {n idx d : Nat} {v1 v2 v3 v4 : Value} {r : Int64} {M' : Mem} (ho : okO G.2.2.2.2 o) (hC : (gcl[o.1]?).map (fun q => q.1) = some y.cls) (vy : VY y) (my : MY y cb n (some .long) 4) (ml : Cond.methodLink own idx y ∈ gtb) (hR : d + 1 ≤ R.frames ∧ 8 + (n + 11) + 36 * d ≤ R.locals ∧ ce + 0 ≤ R.cells ∧ sl + 0 ≤ R.slots)
    (hM : Met l y (wsO y cb n (some .long)) (rmO d) (PcO G (.ref (G.2.1 o) :: [v1, v2, v3, v4]) M) (QlO G (AA G) r M') 0 0 (AA G)) (hcat : (st.map fun v => v.category).sum ≤ 8) (d : decode cc pc = .ok (.invokevirtual idx, 3))
    (kk : T G A p l e R s m args below meth c nL ce sl Q (pc + 3) lo (.long r :: st) M') : T G A p l e R s m args below meth c nL ce sl Q pc lo (v4 :: v3 :: v2 :: v1 :: .ref (G.2.1 o) :: st) M :=
  r_callVl X (As := [v1, v2, v3, v4]) ho hC vy my ml hR hM rfl rfl hcat d kk
theorem r_callVl5 (X : Cx G A p s m args meth c own cc nL) {o : Oid} {y : MethodName} {cb : ByteArray} {n idx d : Nat} {v1 v2 v3 v4 v5 : Value} {r : Int64} {M' : Mem} (ho : okO G.2.2.2.2 o) (hC : (gcl[o.1]?).map (fun q => q.1) = some y.cls) (vy : VY y) (my : MY y cb n (some .long) 5) (ml : Cond.methodLink own idx y ∈ gtb) (hR : d + 1 ≤ R.frames ∧ 8 + (n + 11) + 36 * d ≤ R.locals ∧ ce + 0 ≤ R.cells ∧ sl + 0 ≤ R.slots)
    (hM : Met l y (wsO y cb n (some .long)) (rmO d) (PcO G (.ref (G.2.1 o) :: [v1, v2, v3, v4, v5]) M) (QlO G (AA G) r M') 0 0 (AA G)) (hcat : (st.map fun v => v.category).sum ≤ 8) (d : decode cc pc = .ok (.invokevirtual idx, 3))
    (kk : T G A p l e R s m args below meth c nL ce sl Q (pc + 3) lo (.long r :: st) M') : T G A p l e R s m args below meth c nL ce sl Q pc lo (v5 :: v4 :: v3 :: v2 :: v1 :: .ref (G.2.1 o) :: st) M :=
  r_callVl X (As := [v1, v2, v3, v4, v5]) ho hC vy my ml hR hM rfl rfl hcat d kk
theorem r_callSl (X : Cx G A p s m args meth c own cc nL) {y : MethodName} {cb : ByteArray} {n k idx d : Nat} {As st0 : List Value} {r : Int64} {M' : Mem} (vy : Cond.static y ∈ gtb) (my : MY y cb n (some .long) k) (ml : Cond.methodLink own idx y ∈ gtb) (hR : d + 1 ≤ R.frames ∧ 8 + (n + 11) + 36 * d ≤ R.locals ∧ ce + 0 ≤ R.cells ∧ sl + 0 ≤ R.slots)
    (hM : Met l y (wsO y cb n (some .long)) (rmO d) (PcO G As M) (QlO G (AA G) r M') 0 0 (AA G)) (hn : As.length = k) (hst : st0 = As.reverse ++ st) (hcat : (st.map fun v => v.category).sum ≤ 8) (d : decode cc pc = .ok (.invokestatic idx, 3))
    (kk : T G A p l e R s m args below meth c nL ce sl Q (pc + 3) lo (.long r :: st) M') : T G A p l e R s m args below meth c nL ce sl Q pc lo st0 M := by
  intro H locs ls hS hP hl
  exact va_calll (va_runS (As := As) (rest := st) ⟨X.1, X.2.1, X.2.2.1, X.2.2.2.1, X.2.2.2.2.1⟩ hM ⟨callB_tbl X my ml ⟨hR.1, hR.2.1⟩, X.2.2.2.2.1 _ vy⟩ ⟨PcO_blind, PcO_at X hS hP⟩ rfl hn hl.1 hst (lv_room hcat) d ⟨hR.2.2.1, hR.2.2.2⟩) hS (fun q _ h => X.2.2.2.2.2.2.1 q h) (fun q h => X.2.2.2.2.2.2.1 q h) (fun r1 u t H1 locs1 ht hvm hw hB hz hk hS1 => by
    subst hw
    rw [ht] at hB
    exact kk H1 locs1 ls hS1 hB hl)
theorem r_callSl0 (X : Cx G A p s m args meth c own cc nL) {y : MethodName} {cb : ByteArray} {n idx d : Nat} {r : Int64} {M' : Mem} (vy : Cond.static y ∈ gtb) (my : MY y cb n (some .long) 0) (ml : Cond.methodLink own idx y ∈ gtb) (hR : d + 1 ≤ R.frames ∧ 8 + (n + 11) + 36 * d ≤ R.locals ∧ ce + 0 ≤ R.cells ∧ sl + 0 ≤ R.slots)
    (hM : Met l y (wsO y cb n (some .long)) (rmO d) (PcO G [] M) (QlO G (AA G) r M') 0 0 (AA G)) (hcat : (st.map fun v => v.category).sum ≤ 8) (d : decode cc pc = .ok (.invokestatic idx, 3))
    (kk : T G A p l e R s m args below meth c nL ce sl Q (pc + 3) lo (.long r :: st) M') : T G A p l e R s m args below meth c nL ce sl Q pc lo (st) M :=
  r_callSl X (As := []) vy my ml hR hM rfl rfl hcat d kk
theorem r_callSl1 (X : Cx G A p s m args meth c own cc nL) {y : MethodName} {cb : ByteArray} {n idx d : Nat} {v1 : Value} {r : Int64} {M' : Mem} (vy : Cond.static y ∈ gtb) (my : MY y cb n (some .long) 1) (ml : Cond.methodLink own idx y ∈ gtb) (hR : d + 1 ≤ R.frames ∧ 8 + (n + 11) + 36 * d ≤ R.locals ∧ ce + 0 ≤ R.cells ∧ sl + 0 ≤ R.slots)
    (hM : Met l y (wsO y cb n (some .long)) (rmO d) (PcO G [v1] M) (QlO G (AA G) r M') 0 0 (AA G)) (hcat : (st.map fun v => v.category).sum ≤ 8) (d : decode cc pc = .ok (.invokestatic idx, 3))
    (kk : T G A p l e R s m args below meth c nL ce sl Q (pc + 3) lo (.long r :: st) M') : T G A p l e R s m args below meth c nL ce sl Q pc lo (v1 :: st) M :=
  r_callSl X (As := [v1]) vy my ml hR hM rfl rfl hcat d kk
theorem r_callSl2 (X : Cx G A p s m args meth c own cc nL) {y : MethodName} {cb : ByteArray} {n idx d : Nat} {v1 v2 : Value} {r : Int64} {M' : Mem} (vy : Cond.static y ∈ gtb) (my : MY y cb n (some .long) 2) (ml : Cond.methodLink own idx y ∈ gtb) (hR : d + 1 ≤ R.frames ∧ 8 + (n + 11) + 36 * d ≤ R.locals ∧ ce + 0 ≤ R.cells ∧ sl + 0 ≤ R.slots)
    (hM : Met l y (wsO y cb n (some .long)) (rmO d) (PcO G [v1, v2] M) (QlO G (AA G) r M') 0 0 (AA G)) (hcat : (st.map fun v => v.category).sum ≤ 8) (d : decode cc pc = .ok (.invokestatic idx, 3))
    (kk : T G A p l e R s m args below meth c nL ce sl Q (pc + 3) lo (.long r :: st) M') : T G A p l e R s m args below meth c nL ce sl Q pc lo (v2 :: v1 :: st) M :=
  r_callSl X (As := [v1, v2]) vy my ml hR hM rfl rfl hcat d kk
theorem r_callSl3 (X : Cx G A p s m args meth c own cc nL) {y : MethodName} {cb : ByteArray} {n idx d : Nat} {v1 v2 v3 : Value} {r : Int64} {M' : Mem} (vy : Cond.static y ∈ gtb) (my : MY y cb n (some .long) 3) (ml : Cond.methodLink own idx y ∈ gtb) (hR : d + 1 ≤ R.frames ∧ 8 + (n + 11) + 36 * d ≤ R.locals ∧ ce + 0 ≤ R.cells ∧ sl + 0 ≤ R.slots)
    (hM : Met l y (wsO y cb n (some .long)) (rmO d) (PcO G [v1, v2, v3] M) (QlO G (AA G) r M') 0 0 (AA G)) (hcat : (st.map fun v => v.category).sum ≤ 8) (d : decode cc pc = .ok (.invokestatic idx, 3))
    (kk : T G A p l e R s m args below meth c nL ce sl Q (pc + 3) lo (.long r :: st) M') : T G A p l e R s m args below meth c nL ce sl Q pc lo (v3 :: v2 :: v1 :: st) M :=
  r_callSl X (As := [v1, v2, v3]) vy my ml hR hM rfl rfl hcat d kk
theorem r_callSl4 (X : Cx G A p s m args meth c own cc nL) {y : MethodName} {cb : ByteArray} {n idx d : Nat} {v1 v2 v3 v4 : Value} {r : Int64} {M' : Mem} (vy : Cond.static y ∈ gtb) (my : MY y cb n (some .long) 4) (ml : Cond.methodLink own idx y ∈ gtb) (hR : d + 1 ≤ R.frames ∧ 8 + (n + 11) + 36 * d ≤ R.locals ∧ ce + 0 ≤ R.cells ∧ sl + 0 ≤ R.slots)
    (hM : Met l y (wsO y cb n (some .long)) (rmO d) (PcO G [v1, v2, v3, v4] M) (QlO G (AA G) r M') 0 0 (AA G)) (hcat : (st.map fun v => v.category).sum ≤ 8) (d : decode cc pc = .ok (.invokestatic idx, 3))
    (kk : T G A p l e R s m args below meth c nL ce sl Q (pc + 3) lo (.long r :: st) M') : T G A p l e R s m args below meth c nL ce sl Q pc lo (v4 :: v3 :: v2 :: v1 :: st) M :=
  r_callSl X (As := [v1, v2, v3, v4]) vy my ml hR hM rfl rfl hcat d kk
theorem r_callSl5 (X : Cx G A p s m args meth c own cc nL) {y : MethodName} {cb : ByteArray} {n idx d : Nat} {v1 v2 v3 v4 v5 : Value} {r : Int64} {M' : Mem} (vy : Cond.static y ∈ gtb) (my : MY y cb n (some .long) 5) (ml : Cond.methodLink own idx y ∈ gtb) (hR : d + 1 ≤ R.frames ∧ 8 + (n + 11) + 36 * d ≤ R.locals ∧ ce + 0 ≤ R.cells ∧ sl + 0 ≤ R.slots)
    (hM : Met l y (wsO y cb n (some .long)) (rmO d) (PcO G [v1, v2, v3, v4, v5] M) (QlO G (AA G) r M') 0 0 (AA G)) (hcat : (st.map fun v => v.category).sum ≤ 8) (d : decode cc pc = .ok (.invokestatic idx, 3))
    (kk : T G A p l e R s m args below meth c nL ce sl Q (pc + 3) lo (.long r :: st) M') : T G A p l e R s m args below meth c nL ce sl Q pc lo (v5 :: v4 :: v3 :: v2 :: v1 :: st) M :=
  r_callSl X (As := [v1, v2, v3, v4, v5]) vy my ml hR hM rfl rfl hcat d kk
theorem r_callVv (X : Cx G A p s m args meth c own cc nL) {o : Oid} {y : MethodName} {cb : ByteArray} {n k idx d : Nat} {As st0 : List Value} {M' : Mem} (ho : okO G.2.2.2.2 o) (hC : (gcl[o.1]?).map (fun q => q.1) = some y.cls) (vy : VY y) (my : MY y cb n none k) (ml : Cond.methodLink own idx y ∈ gtb) (hR : d + 1 ≤ R.frames ∧ 8 + (n + 11) + 36 * d ≤ R.locals ∧ ce + 0 ≤ R.cells ∧ sl + 0 ≤ R.slots)
    (hM : Met l y (wsO y cb n none) (rmO d) (PcO G (.ref (G.2.1 o) :: As) M) (QvO G (AA G) M') 0 0 (AA G)) (hn : As.length = k) (hst : st0 = As.reverse ++ .ref (G.2.1 o) :: st) (hcat : (st.map fun v => v.category).sum ≤ 8) (d : decode cc pc = .ok (.invokevirtual idx, 3))
    (kk : T G A p l e R s m args below meth c nL ce sl Q (pc + 3) lo (st) M') : T G A p l e R s m args below meth c nL ce sl Q pc lo st0 M := by
  intro H locs ls hS hP hl
  exact va_callv (va_runV (As := As) (rest := st) ⟨X.1, X.2.1, X.2.2.1, X.2.2.2.1, X.2.2.2.2.1⟩ hM ⟨callB_tbl X my ml ⟨hR.1, hR.2.1⟩, X.2.2.2.2.1 _ vy.1, X.2.2.2.2.1 _ vy.2⟩ ⟨PcO_blind, recv_at X hP ho hC, PcO_at X hS hP⟩ rfl hn hl.1 hst (lv_room hcat) d ⟨hR.2.2.1, hR.2.2.2⟩) hS (fun q _ h => X.2.2.2.2.2.2.1 q h) (fun q h => X.2.2.2.2.2.2.1 q h) (fun u t H1 locs1 ht hvm hw hB hz hk hS1 => by
    rw [ht] at hB
    exact kk H1 locs1 ls hS1 hB hl)
theorem r_callVv0 (X : Cx G A p s m args meth c own cc nL) {o : Oid} {y : MethodName} {cb : ByteArray} {n idx d : Nat} {M' : Mem} (ho : okO G.2.2.2.2 o) (hC : (gcl[o.1]?).map (fun q => q.1) = some y.cls) (vy : VY y) (my : MY y cb n none 0) (ml : Cond.methodLink own idx y ∈ gtb) (hR : d + 1 ≤ R.frames ∧ 8 + (n + 11) + 36 * d ≤ R.locals ∧ ce + 0 ≤ R.cells ∧ sl + 0 ≤ R.slots)
    (hM : Met l y (wsO y cb n none) (rmO d) (PcO G (.ref (G.2.1 o) :: []) M) (QvO G (AA G) M') 0 0 (AA G)) (hcat : (st.map fun v => v.category).sum ≤ 8) (d : decode cc pc = .ok (.invokevirtual idx, 3))
    (kk : T G A p l e R s m args below meth c nL ce sl Q (pc + 3) lo (st) M') : T G A p l e R s m args below meth c nL ce sl Q pc lo (.ref (G.2.1 o) :: st) M :=
  r_callVv X (As := []) ho hC vy my ml hR hM rfl rfl hcat d kk
theorem r_callVv1 (X : Cx G A p s m args meth c own cc nL) {o : Oid} {y : MethodName} {cb : ByteArray} {n idx d : Nat} {v1 : Value} {M' : Mem} (ho : okO G.2.2.2.2 o) (hC : (gcl[o.1]?).map (fun q => q.1) = some y.cls) (vy : VY y) (my : MY y cb n none 1) (ml : Cond.methodLink own idx y ∈ gtb) (hR : d + 1 ≤ R.frames ∧ 8 + (n + 11) + 36 * d ≤ R.locals ∧ ce + 0 ≤ R.cells ∧ sl + 0 ≤ R.slots)
    (hM : Met l y (wsO y cb n none) (rmO d) (PcO G (.ref (G.2.1 o) :: [v1]) M) (QvO G (AA G) M') 0 0 (AA G)) (hcat : (st.map fun v => v.category).sum ≤ 8) (d : decode cc pc = .ok (.invokevirtual idx, 3))
    (kk : T G A p l e R s m args below meth c nL ce sl Q (pc + 3) lo (st) M') : T G A p l e R s m args below meth c nL ce sl Q pc lo (v1 :: .ref (G.2.1 o) :: st) M :=
  r_callVv X (As := [v1]) ho hC vy my ml hR hM rfl rfl hcat d kk
theorem r_callVv2 (X : Cx G A p s m args meth c own cc nL) {o : Oid} {y : MethodName} {cb : ByteArray} {n idx d : Nat} {v1 v2 : Value} {M' : Mem} (ho : okO G.2.2.2.2 o) (hC : (gcl[o.1]?).map (fun q => q.1) = some y.cls) (vy : VY y) (my : MY y cb n none 2) (ml : Cond.methodLink own idx y ∈ gtb) (hR : d + 1 ≤ R.frames ∧ 8 + (n + 11) + 36 * d ≤ R.locals ∧ ce + 0 ≤ R.cells ∧ sl + 0 ≤ R.slots)
    (hM : Met l y (wsO y cb n none) (rmO d) (PcO G (.ref (G.2.1 o) :: [v1, v2]) M) (QvO G (AA G) M') 0 0 (AA G)) (hcat : (st.map fun v => v.category).sum ≤ 8) (d : decode cc pc = .ok (.invokevirtual idx, 3))
    (kk : T G A p l e R s m args below meth c nL ce sl Q (pc + 3) lo (st) M') : T G A p l e R s m args below meth c nL ce sl Q pc lo (v2 :: v1 :: .ref (G.2.1 o) :: st) M :=
  r_callVv X (As := [v1, v2]) ho hC vy my ml hR hM rfl rfl hcat d kk
theorem r_callVv3 (X : Cx G A p s m args meth c own cc nL) {o : Oid} {y : MethodName} {cb : ByteArray} {n idx d : Nat} {v1 v2 v3 : Value} {M' : Mem} (ho : okO G.2.2.2.2 o) (hC : (gcl[o.1]?).map (fun q => q.1) = some y.cls) (vy : VY y) (my : MY y cb n none 3) (ml : Cond.methodLink own idx y ∈ gtb) (hR : d + 1 ≤ R.frames ∧ 8 + (n + 11) + 36 * d ≤ R.locals ∧ ce + 0 ≤ R.cells ∧ sl + 0 ≤ R.slots)
    (hM : Met l y (wsO y cb n none) (rmO d) (PcO G (.ref (G.2.1 o) :: [v1, v2, v3]) M) (QvO G (AA G) M') 0 0 (AA G)) (hcat : (st.map fun v => v.category).sum ≤ 8) (d : decode cc pc = .ok (.invokevirtual idx, 3))
    (kk : T G A p l e R s m args below meth c nL ce sl Q (pc + 3) lo (st) M') : T G A p l e R s m args below meth c nL ce sl Q pc lo (v3 :: v2 :: v1 :: .ref (G.2.1 o) :: st) M :=
  r_callVv X (As := [v1, v2, v3]) ho hC vy my ml hR hM rfl rfl hcat d kk
theorem r_callVv4 (X : Cx G A p s m args meth c own cc nL) {o : Oid} {y : MethodName} {cb : ByteArray} {n idx d : Nat} {v1 v2 v3 v4 : Value} {M' : Mem} (ho : okO G.2.2.2.2 o) (hC : (gcl[o.1]?).map (fun q => q.1) = some y.cls) (vy : VY y) (my : MY y cb n none 4) (ml : Cond.methodLink own idx y ∈ gtb) (hR : d + 1 ≤ R.frames ∧ 8 + (n + 11) + 36 * d ≤ R.locals ∧ ce + 0 ≤ R.cells ∧ sl + 0 ≤ R.slots)
    (hM : Met l y (wsO y cb n none) (rmO d) (PcO G (.ref (G.2.1 o) :: [v1, v2, v3, v4]) M) (QvO G (AA G) M') 0 0 (AA G)) (hcat : (st.map fun v => v.category).sum ≤ 8) (d : decode cc pc = .ok (.invokevirtual idx, 3))
    (kk : T G A p l e R s m args below meth c nL ce sl Q (pc + 3) lo (st) M') : T G A p l e R s m args below meth c nL ce sl Q pc lo (v4 :: v3 :: v2 :: v1 :: .ref (G.2.1 o) :: st) M :=
  r_callVv X (As := [v1, v2, v3, v4]) ho hC vy my ml hR hM rfl rfl hcat d kk
theorem r_callVv5 (X : Cx G A p s m args meth c own cc nL) {o : Oid} {y : MethodName} {cb : ByteArray} {n idx d : Nat} {v1 v2 v3 v4 v5 : Value} {M' : Mem} (ho : okO G.2.2.2.2 o) (hC : (gcl[o.1]?).map (fun q => q.1) = some y.cls) (vy : VY y) (my : MY y cb n none 5) (ml : Cond.methodLink own idx y ∈ gtb) (hR : d + 1 ≤ R.frames ∧ 8 + (n + 11) + 36 * d ≤ R.locals ∧ ce + 0 ≤ R.cells ∧ sl + 0 ≤ R.slots)
    (hM : Met l y (wsO y cb n none) (rmO d) (PcO G (.ref (G.2.1 o) :: [v1, v2, v3, v4, v5]) M) (QvO G (AA G) M') 0 0 (AA G)) (hcat : (st.map fun v => v.category).sum ≤ 8) (d : decode cc pc = .ok (.invokevirtual idx, 3))
    (kk : T G A p l e R s m args below meth c nL ce sl Q (pc + 3) lo (st) M') : T G A p l e R s m args below meth c nL ce sl Q pc lo (v5 :: v4 :: v3 :: v2 :: v1 :: .ref (G.2.1 o) :: st) M :=
  r_callVv X (As := [v1, v2, v3, v4, v5]) ho hC vy my ml hR hM rfl rfl hcat d kk
theorem r_callSv (X : Cx G A p s m args meth c own cc nL) {y : MethodName} {cb : ByteArray} {n k idx d : Nat} {As st0 : List Value} {M' : Mem} (vy : Cond.static y ∈ gtb) (my : MY y cb n none k) (ml : Cond.methodLink own idx y ∈ gtb) (hR : d + 1 ≤ R.frames ∧ 8 + (n + 11) + 36 * d ≤ R.locals ∧ ce + 0 ≤ R.cells ∧ sl + 0 ≤ R.slots)
    (hM : Met l y (wsO y cb n none) (rmO d) (PcO G As M) (QvO G (AA G) M') 0 0 (AA G)) (hn : As.length = k) (hst : st0 = As.reverse ++ st) (hcat : (st.map fun v => v.category).sum ≤ 8) (d : decode cc pc = .ok (.invokestatic idx, 3))
    (kk : T G A p l e R s m args below meth c nL ce sl Q (pc + 3) lo (st) M') : T G A p l e R s m args below meth c nL ce sl Q pc lo st0 M := by
  intro H locs ls hS hP hl
  exact va_callv (va_runS (As := As) (rest := st) ⟨X.1, X.2.1, X.2.2.1, X.2.2.2.1, X.2.2.2.2.1⟩ hM ⟨callB_tbl X my ml ⟨hR.1, hR.2.1⟩, X.2.2.2.2.1 _ vy⟩ ⟨PcO_blind, PcO_at X hS hP⟩ rfl hn hl.1 hst (lv_room hcat) d ⟨hR.2.2.1, hR.2.2.2⟩) hS (fun q _ h => X.2.2.2.2.2.2.1 q h) (fun q h => X.2.2.2.2.2.2.1 q h) (fun u t H1 locs1 ht hvm hw hB hz hk hS1 => by
    rw [ht] at hB
    exact kk H1 locs1 ls hS1 hB hl)
theorem r_callSv0 (X : Cx G A p s m args meth c own cc nL) {y : MethodName} {cb : ByteArray} {n idx d : Nat} {M' : Mem} (vy : Cond.static y ∈ gtb) (my : MY y cb n none 0) (ml : Cond.methodLink own idx y ∈ gtb) (hR : d + 1 ≤ R.frames ∧ 8 + (n + 11) + 36 * d ≤ R.locals ∧ ce + 0 ≤ R.cells ∧ sl + 0 ≤ R.slots)
    (hM : Met l y (wsO y cb n none) (rmO d) (PcO G [] M) (QvO G (AA G) M') 0 0 (AA G)) (hcat : (st.map fun v => v.category).sum ≤ 8) (d : decode cc pc = .ok (.invokestatic idx, 3))
    (kk : T G A p l e R s m args below meth c nL ce sl Q (pc + 3) lo (st) M') : T G A p l e R s m args below meth c nL ce sl Q pc lo (st) M :=
  r_callSv X (As := []) vy my ml hR hM rfl rfl hcat d kk
theorem r_callSv1 (X : Cx G A p s m args meth c own cc nL) {y : MethodName} {cb : ByteArray} {n idx d : Nat} {v1 : Value} {M' : Mem} (vy : Cond.static y ∈ gtb) (my : MY y cb n none 1) (ml : Cond.methodLink own idx y ∈ gtb) (hR : d + 1 ≤ R.frames ∧ 8 + (n + 11) + 36 * d ≤ R.locals ∧ ce + 0 ≤ R.cells ∧ sl + 0 ≤ R.slots)
    (hM : Met l y (wsO y cb n none) (rmO d) (PcO G [v1] M) (QvO G (AA G) M') 0 0 (AA G)) (hcat : (st.map fun v => v.category).sum ≤ 8) (d : decode cc pc = .ok (.invokestatic idx, 3))
    (kk : T G A p l e R s m args below meth c nL ce sl Q (pc + 3) lo (st) M') : T G A p l e R s m args below meth c nL ce sl Q pc lo (v1 :: st) M :=
  r_callSv X (As := [v1]) vy my ml hR hM rfl rfl hcat d kk
theorem r_callSv2 (X : Cx G A p s m args meth c own cc nL) {y : MethodName} {cb : ByteArray} {n idx d : Nat} {v1 v2 : Value} {M' : Mem} (vy : Cond.static y ∈ gtb) (my : MY y cb n none 2) (ml : Cond.methodLink own idx y ∈ gtb) (hR : d + 1 ≤ R.frames ∧ 8 + (n + 11) + 36 * d ≤ R.locals ∧ ce + 0 ≤ R.cells ∧ sl + 0 ≤ R.slots)
    (hM : Met l y (wsO y cb n none) (rmO d) (PcO G [v1, v2] M) (QvO G (AA G) M') 0 0 (AA G)) (hcat : (st.map fun v => v.category).sum ≤ 8) (d : decode cc pc = .ok (.invokestatic idx, 3))
    (kk : T G A p l e R s m args below meth c nL ce sl Q (pc + 3) lo (st) M') : T G A p l e R s m args below meth c nL ce sl Q pc lo (v2 :: v1 :: st) M :=
  r_callSv X (As := [v1, v2]) vy my ml hR hM rfl rfl hcat d kk
theorem r_callSv3 (X : Cx G A p s m args meth c own cc nL) {y : MethodName} {cb : ByteArray} {n idx d : Nat} {v1 v2 v3 : Value} {M' : Mem} (vy : Cond.static y ∈ gtb) (my : MY y cb n none 3) (ml : Cond.methodLink own idx y ∈ gtb) (hR : d + 1 ≤ R.frames ∧ 8 + (n + 11) + 36 * d ≤ R.locals ∧ ce + 0 ≤ R.cells ∧ sl + 0 ≤ R.slots)
    (hM : Met l y (wsO y cb n none) (rmO d) (PcO G [v1, v2, v3] M) (QvO G (AA G) M') 0 0 (AA G)) (hcat : (st.map fun v => v.category).sum ≤ 8) (d : decode cc pc = .ok (.invokestatic idx, 3))
    (kk : T G A p l e R s m args below meth c nL ce sl Q (pc + 3) lo (st) M') : T G A p l e R s m args below meth c nL ce sl Q pc lo (v3 :: v2 :: v1 :: st) M :=
  r_callSv X (As := [v1, v2, v3]) vy my ml hR hM rfl rfl hcat d kk
theorem r_callSv4 (X : Cx G A p s m args meth c own cc nL) {y : MethodName} {cb : ByteArray} {n idx d : Nat} {v1 v2 v3 v4 : Value} {M' : Mem} (vy : Cond.static y ∈ gtb) (my : MY y cb n none 4) (ml : Cond.methodLink own idx y ∈ gtb) (hR : d + 1 ≤ R.frames ∧ 8 + (n + 11) + 36 * d ≤ R.locals ∧ ce + 0 ≤ R.cells ∧ sl + 0 ≤ R.slots)
    (hM : Met l y (wsO y cb n none) (rmO d) (PcO G [v1, v2, v3, v4] M) (QvO G (AA G) M') 0 0 (AA G)) (hcat : (st.map fun v => v.category).sum ≤ 8) (d : decode cc pc = .ok (.invokestatic idx, 3))
    (kk : T G A p l e R s m args below meth c nL ce sl Q (pc + 3) lo (st) M') : T G A p l e R s m args below meth c nL ce sl Q pc lo (v4 :: v3 :: v2 :: v1 :: st) M :=
  r_callSv X (As := [v1, v2, v3, v4]) vy my ml hR hM rfl rfl hcat d kk
theorem r_callSv5 (X : Cx G A p s m args meth c own cc nL) {y : MethodName} {cb : ByteArray} {n idx d : Nat} {v1 v2 v3 v4 v5 : Value} {M' : Mem} (vy : Cond.static y ∈ gtb) (my : MY y cb n none 5) (ml : Cond.methodLink own idx y ∈ gtb) (hR : d + 1 ≤ R.frames ∧ 8 + (n + 11) + 36 * d ≤ R.locals ∧ ce + 0 ≤ R.cells ∧ sl + 0 ≤ R.slots)
    (hM : Met l y (wsO y cb n none) (rmO d) (PcO G [v1, v2, v3, v4, v5] M) (QvO G (AA G) M') 0 0 (AA G)) (hcat : (st.map fun v => v.category).sum ≤ 8) (d : decode cc pc = .ok (.invokestatic idx, 3))
    (kk : T G A p l e R s m args below meth c nL ce sl Q (pc + 3) lo (st) M') : T G A p l e R s m args below meth c nL ce sl Q pc lo (v5 :: v4 :: v3 :: v2 :: v1 :: st) M :=
  r_callSv X (As := [v1, v2, v3, v4, v5]) vy my ml hR hM rfl rfl hcat d kk
theorem r_callVr (X : Cx G A p s m args meth c own cc nL) {o : Oid} {y : MethodName} {cb : ByteArray} {n k idx d : Nat} {As st0 : List Value} {r : Nat} {rt : FieldType} {M' : Mem} (ho : okO G.2.2.2.2 o) (hC : (gcl[o.1]?).map (fun q => q.1) = some y.cls) (vy : VY y) (my : MY y cb n (some rt) k) (ml : Cond.methodLink own idx y ∈ gtb) (hR : d + 1 ≤ R.frames ∧ 8 + (n + 11) + 36 * d ≤ R.locals ∧ ce + 0 ≤ R.cells ∧ sl + 0 ≤ R.slots)
    (hM : Met l y (wsO y cb n (some rt)) (rmO d) (PcO G (.ref (G.2.1 o) :: As) M) (QrO G (AA G) r M') 0 0 (AA G)) (hn : As.length = k) (hst : st0 = As.reverse ++ .ref (G.2.1 o) :: st) (hcat : (st.map fun v => v.category).sum ≤ 8) (d : decode cc pc = .ok (.invokevirtual idx, 3))
    (kk : T G A p l e R s m args below meth c nL ce sl Q (pc + 3) lo (.ref r :: st) M') : T G A p l e R s m args below meth c nL ce sl Q pc lo st0 M := by
  intro H locs ls hS hP hl
  exact va_callr (va_runV (As := As) (rest := st) ⟨X.1, X.2.1, X.2.2.1, X.2.2.2.1, X.2.2.2.2.1⟩ hM ⟨callB_tbl X my ml ⟨hR.1, hR.2.1⟩, X.2.2.2.2.1 _ vy.1, X.2.2.2.2.1 _ vy.2⟩ ⟨PcO_blind, recv_at X hP ho hC, PcO_at X hS hP⟩ rfl hn hl.1 hst (lv_room hcat) d ⟨hR.2.2.1, hR.2.2.2⟩) hS (fun q _ h => X.2.2.2.2.2.2.1 q h) (fun q h => X.2.2.2.2.2.2.1 q h) (fun u ra t H1 locs1 ht hvm hw hB hz hk hS1 => by
    obtain ⟨rfl, hB⟩ := hB
    rw [ht] at hB
    exact kk H1 locs1 ls hS1 hB hl)
theorem r_callVr0 (X : Cx G A p s m args meth c own cc nL) {o : Oid} {y : MethodName} {cb : ByteArray} {n idx d : Nat} {r : Nat} {rt : FieldType} {M' : Mem} (ho : okO G.2.2.2.2 o) (hC : (gcl[o.1]?).map (fun q => q.1) = some y.cls) (vy : VY y) (my : MY y cb n (some rt) 0) (ml : Cond.methodLink own idx y ∈ gtb) (hR : d + 1 ≤ R.frames ∧ 8 + (n + 11) + 36 * d ≤ R.locals ∧ ce + 0 ≤ R.cells ∧ sl + 0 ≤ R.slots)
    (hM : Met l y (wsO y cb n (some rt)) (rmO d) (PcO G (.ref (G.2.1 o) :: []) M) (QrO G (AA G) r M') 0 0 (AA G)) (hcat : (st.map fun v => v.category).sum ≤ 8) (d : decode cc pc = .ok (.invokevirtual idx, 3))
    (kk : T G A p l e R s m args below meth c nL ce sl Q (pc + 3) lo (.ref r :: st) M') : T G A p l e R s m args below meth c nL ce sl Q pc lo (.ref (G.2.1 o) :: st) M :=
  r_callVr X (As := []) ho hC vy my ml hR hM rfl rfl hcat d kk
theorem r_callVr1 (X : Cx G A p s m args meth c own cc nL) {o : Oid} {y : MethodName} {cb : ByteArray} {n idx d : Nat} {v1 : Value} {r : Nat} {rt : FieldType} {M' : Mem} (ho : okO G.2.2.2.2 o) (hC : (gcl[o.1]?).map (fun q => q.1) = some y.cls) (vy : VY y) (my : MY y cb n (some rt) 1) (ml : Cond.methodLink own idx y ∈ gtb) (hR : d + 1 ≤ R.frames ∧ 8 + (n + 11) + 36 * d ≤ R.locals ∧ ce + 0 ≤ R.cells ∧ sl + 0 ≤ R.slots)
    (hM : Met l y (wsO y cb n (some rt)) (rmO d) (PcO G (.ref (G.2.1 o) :: [v1]) M) (QrO G (AA G) r M') 0 0 (AA G)) (hcat : (st.map fun v => v.category).sum ≤ 8) (d : decode cc pc = .ok (.invokevirtual idx, 3))
    (kk : T G A p l e R s m args below meth c nL ce sl Q (pc + 3) lo (.ref r :: st) M') : T G A p l e R s m args below meth c nL ce sl Q pc lo (v1 :: .ref (G.2.1 o) :: st) M :=
  r_callVr X (As := [v1]) ho hC vy my ml hR hM rfl rfl hcat d kk
theorem r_callVr2 (X : Cx G A p s m args meth c own cc nL) {o : Oid} {y : MethodName} {cb : ByteArray} {n idx d : Nat} {v1 v2 : Value} {r : Nat} {rt : FieldType} {M' : Mem} (ho : okO G.2.2.2.2 o) (hC : (gcl[o.1]?).map (fun q => q.1) = some y.cls) (vy : VY y) (my : MY y cb n (some rt) 2) (ml : Cond.methodLink own idx y ∈ gtb) (hR : d + 1 ≤ R.frames ∧ 8 + (n + 11) + 36 * d ≤ R.locals ∧ ce + 0 ≤ R.cells ∧ sl + 0 ≤ R.slots)
    (hM : Met l y (wsO y cb n (some rt)) (rmO d) (PcO G (.ref (G.2.1 o) :: [v1, v2]) M) (QrO G (AA G) r M') 0 0 (AA G)) (hcat : (st.map fun v => v.category).sum ≤ 8) (d : decode cc pc = .ok (.invokevirtual idx, 3))
    (kk : T G A p l e R s m args below meth c nL ce sl Q (pc + 3) lo (.ref r :: st) M') : T G A p l e R s m args below meth c nL ce sl Q pc lo (v2 :: v1 :: .ref (G.2.1 o) :: st) M :=
  r_callVr X (As := [v1, v2]) ho hC vy my ml hR hM rfl rfl hcat d kk
theorem r_callVr3 (X : Cx G A p s m args meth c own cc nL) {o : Oid} {y : MethodName} {cb : ByteArray} {n idx d : Nat} {v1 v2 v3 : Value} {r : Nat} {rt : FieldType} {M' : Mem} (ho : okO G.2.2.2.2 o) (hC : (gcl[o.1]?).map (fun q => q.1) = some y.cls) (vy : VY y) (my : MY y cb n (some rt) 3) (ml : Cond.methodLink own idx y ∈ gtb) (hR : d + 1 ≤ R.frames ∧ 8 + (n + 11) + 36 * d ≤ R.locals ∧ ce + 0 ≤ R.cells ∧ sl + 0 ≤ R.slots)
    (hM : Met l y (wsO y cb n (some rt)) (rmO d) (PcO G (.ref (G.2.1 o) :: [v1, v2, v3]) M) (QrO G (AA G) r M') 0 0 (AA G)) (hcat : (st.map fun v => v.category).sum ≤ 8) (d : decode cc pc = .ok (.invokevirtual idx, 3))
    (kk : T G A p l e R s m args below meth c nL ce sl Q (pc + 3) lo (.ref r :: st) M') : T G A p l e R s m args below meth c nL ce sl Q pc lo (v3 :: v2 :: v1 :: .ref (G.2.1 o) :: st) M :=
  r_callVr X (As := [v1, v2, v3]) ho hC vy my ml hR hM rfl rfl hcat d kk
theorem r_callVr4 (X : Cx G A p s m args meth c own cc nL) {o : Oid} {y : MethodName} {cb : ByteArray} {n idx d : Nat} {v1 v2 v3 v4 : Value} {r : Nat} {rt : FieldType} {M' : Mem} (ho : okO G.2.2.2.2 o) (hC : (gcl[o.1]?).map (fun q => q.1) = some y.cls) (vy : VY y) (my : MY y cb n (some rt) 4) (ml : Cond.methodLink own idx y ∈ gtb) (hR : d + 1 ≤ R.frames ∧ 8 + (n + 11) + 36 * d ≤ R.locals ∧ ce + 0 ≤ R.cells ∧ sl + 0 ≤ R.slots)
    (hM : Met l y (wsO y cb n (some rt)) (rmO d) (PcO G (.ref (G.2.1 o) :: [v1, v2, v3, v4]) M) (QrO G (AA G) r M') 0 0 (AA G)) (hcat : (st.map fun v => v.category).sum ≤ 8) (d : decode cc pc = .ok (.invokevirtual idx, 3))
    (kk : T G A p l e R s m args below meth c nL ce sl Q (pc + 3) lo (.ref r :: st) M') : T G A p l e R s m args below meth c nL ce sl Q pc lo (v4 :: v3 :: v2 :: v1 :: .ref (G.2.1 o) :: st) M :=
  r_callVr X (As := [v1, v2, v3, v4]) ho hC vy my ml hR hM rfl rfl hcat d kk
theorem r_callVr5 (X : Cx G A p s m args meth c own cc nL) {o : Oid} {y : MethodName} {cb : ByteArray} {n idx d : Nat} {v1 v2 v3 v4 v5 : Value} {r : Nat} {rt : FieldType} {M' : Mem} (ho : okO G.2.2.2.2 o) (hC : (gcl[o.1]?).map (fun q => q.1) = some y.cls) (vy : VY y) (my : MY y cb n (some rt) 5) (ml : Cond.methodLink own idx y ∈ gtb) (hR : d + 1 ≤ R.frames ∧ 8 + (n + 11) + 36 * d ≤ R.locals ∧ ce + 0 ≤ R.cells ∧ sl + 0 ≤ R.slots)
    (hM : Met l y (wsO y cb n (some rt)) (rmO d) (PcO G (.ref (G.2.1 o) :: [v1, v2, v3, v4, v5]) M) (QrO G (AA G) r M') 0 0 (AA G)) (hcat : (st.map fun v => v.category).sum ≤ 8) (d : decode cc pc = .ok (.invokevirtual idx, 3))
    (kk : T G A p l e R s m args below meth c nL ce sl Q (pc + 3) lo (.ref r :: st) M') : T G A p l e R s m args below meth c nL ce sl Q pc lo (v5 :: v4 :: v3 :: v2 :: v1 :: .ref (G.2.1 o) :: st) M :=
  r_callVr X (As := [v1, v2, v3, v4, v5]) ho hC vy my ml hR hM rfl rfl hcat d kk
theorem r_callSr (X : Cx G A p s m args meth c own cc nL) {y : MethodName} {cb : ByteArray} {n k idx d : Nat} {As st0 : List Value} {r : Nat} {rt : FieldType} {M' : Mem} (vy : Cond.static y ∈ gtb) (my : MY y cb n (some rt) k) (ml : Cond.methodLink own idx y ∈ gtb) (hR : d + 1 ≤ R.frames ∧ 8 + (n + 11) + 36 * d ≤ R.locals ∧ ce + 0 ≤ R.cells ∧ sl + 0 ≤ R.slots)
    (hM : Met l y (wsO y cb n (some rt)) (rmO d) (PcO G As M) (QrO G (AA G) r M') 0 0 (AA G)) (hn : As.length = k) (hst : st0 = As.reverse ++ st) (hcat : (st.map fun v => v.category).sum ≤ 8) (d : decode cc pc = .ok (.invokestatic idx, 3))
    (kk : T G A p l e R s m args below meth c nL ce sl Q (pc + 3) lo (.ref r :: st) M') : T G A p l e R s m args below meth c nL ce sl Q pc lo st0 M := by
  intro H locs ls hS hP hl
  exact va_callr (va_runS (As := As) (rest := st) ⟨X.1, X.2.1, X.2.2.1, X.2.2.2.1, X.2.2.2.2.1⟩ hM ⟨callB_tbl X my ml ⟨hR.1, hR.2.1⟩, X.2.2.2.2.1 _ vy⟩ ⟨PcO_blind, PcO_at X hS hP⟩ rfl hn hl.1 hst (lv_room hcat) d ⟨hR.2.2.1, hR.2.2.2⟩) hS (fun q _ h => X.2.2.2.2.2.2.1 q h) (fun q h => X.2.2.2.2.2.2.1 q h) (fun u ra t H1 locs1 ht hvm hw hB hz hk hS1 => by
    obtain ⟨rfl, hB⟩ := hB
    rw [ht] at hB
    exact kk H1 locs1 ls hS1 hB hl)
theorem r_callSr0 (X : Cx G A p s m args meth c own cc nL) {y : MethodName} {cb : ByteArray} {n idx d : Nat} {r : Nat} {rt : FieldType} {M' : Mem} (vy : Cond.static y ∈ gtb) (my : MY y cb n (some rt) 0) (ml : Cond.methodLink own idx y ∈ gtb) (hR : d + 1 ≤ R.frames ∧ 8 + (n + 11) + 36 * d ≤ R.locals ∧ ce + 0 ≤ R.cells ∧ sl + 0 ≤ R.slots)
    (hM : Met l y (wsO y cb n (some rt)) (rmO d) (PcO G [] M) (QrO G (AA G) r M') 0 0 (AA G)) (hcat : (st.map fun v => v.category).sum ≤ 8) (d : decode cc pc = .ok (.invokestatic idx, 3))
    (kk : T G A p l e R s m args below meth c nL ce sl Q (pc + 3) lo (.ref r :: st) M') : T G A p l e R s m args below meth c nL ce sl Q pc lo (st) M :=
  r_callSr X (As := []) vy my ml hR hM rfl rfl hcat d kk
theorem r_callSr1 (X : Cx G A p s m args meth c own cc nL) {y : MethodName} {cb : ByteArray} {n idx d : Nat} {v1 : Value} {r : Nat} {rt : FieldType} {M' : Mem} (vy : Cond.static y ∈ gtb) (my : MY y cb n (some rt) 1) (ml : Cond.methodLink own idx y ∈ gtb) (hR : d + 1 ≤ R.frames ∧ 8 + (n + 11) + 36 * d ≤ R.locals ∧ ce + 0 ≤ R.cells ∧ sl + 0 ≤ R.slots)
    (hM : Met l y (wsO y cb n (some rt)) (rmO d) (PcO G [v1] M) (QrO G (AA G) r M') 0 0 (AA G)) (hcat : (st.map fun v => v.category).sum ≤ 8) (d : decode cc pc = .ok (.invokestatic idx, 3))
    (kk : T G A p l e R s m args below meth c nL ce sl Q (pc + 3) lo (.ref r :: st) M') : T G A p l e R s m args below meth c nL ce sl Q pc lo (v1 :: st) M :=
  r_callSr X (As := [v1]) vy my ml hR hM rfl rfl hcat d kk
theorem r_callSr2 (X : Cx G A p s m args meth c own cc nL) {y : MethodName} {cb : ByteArray} {n idx d : Nat} {v1 v2 : Value} {r : Nat} {rt : FieldType} {M' : Mem} (vy : Cond.static y ∈ gtb) (my : MY y cb n (some rt) 2) (ml : Cond.methodLink own idx y ∈ gtb) (hR : d + 1 ≤ R.frames ∧ 8 + (n + 11) + 36 * d ≤ R.locals ∧ ce + 0 ≤ R.cells ∧ sl + 0 ≤ R.slots)
    (hM : Met l y (wsO y cb n (some rt)) (rmO d) (PcO G [v1, v2] M) (QrO G (AA G) r M') 0 0 (AA G)) (hcat : (st.map fun v => v.category).sum ≤ 8) (d : decode cc pc = .ok (.invokestatic idx, 3))
    (kk : T G A p l e R s m args below meth c nL ce sl Q (pc + 3) lo (.ref r :: st) M') : T G A p l e R s m args below meth c nL ce sl Q pc lo (v2 :: v1 :: st) M :=
  r_callSr X (As := [v1, v2]) vy my ml hR hM rfl rfl hcat d kk
theorem r_callSr3 (X : Cx G A p s m args meth c own cc nL) {y : MethodName} {cb : ByteArray} {n idx d : Nat} {v1 v2 v3 : Value} {r : Nat} {rt : FieldType} {M' : Mem} (vy : Cond.static y ∈ gtb) (my : MY y cb n (some rt) 3) (ml : Cond.methodLink own idx y ∈ gtb) (hR : d + 1 ≤ R.frames ∧ 8 + (n + 11) + 36 * d ≤ R.locals ∧ ce + 0 ≤ R.cells ∧ sl + 0 ≤ R.slots)
    (hM : Met l y (wsO y cb n (some rt)) (rmO d) (PcO G [v1, v2, v3] M) (QrO G (AA G) r M') 0 0 (AA G)) (hcat : (st.map fun v => v.category).sum ≤ 8) (d : decode cc pc = .ok (.invokestatic idx, 3))
    (kk : T G A p l e R s m args below meth c nL ce sl Q (pc + 3) lo (.ref r :: st) M') : T G A p l e R s m args below meth c nL ce sl Q pc lo (v3 :: v2 :: v1 :: st) M :=
  r_callSr X (As := [v1, v2, v3]) vy my ml hR hM rfl rfl hcat d kk
theorem r_callSr4 (X : Cx G A p s m args meth c own cc nL) {y : MethodName} {cb : ByteArray} {n idx d : Nat} {v1 v2 v3 v4 : Value} {r : Nat} {rt : FieldType} {M' : Mem} (vy : Cond.static y ∈ gtb) (my : MY y cb n (some rt) 4) (ml : Cond.methodLink own idx y ∈ gtb) (hR : d + 1 ≤ R.frames ∧ 8 + (n + 11) + 36 * d ≤ R.locals ∧ ce + 0 ≤ R.cells ∧ sl + 0 ≤ R.slots)
    (hM : Met l y (wsO y cb n (some rt)) (rmO d) (PcO G [v1, v2, v3, v4] M) (QrO G (AA G) r M') 0 0 (AA G)) (hcat : (st.map fun v => v.category).sum ≤ 8) (d : decode cc pc = .ok (.invokestatic idx, 3))
    (kk : T G A p l e R s m args below meth c nL ce sl Q (pc + 3) lo (.ref r :: st) M') : T G A p l e R s m args below meth c nL ce sl Q pc lo (v4 :: v3 :: v2 :: v1 :: st) M :=
  r_callSr X (As := [v1, v2, v3, v4]) vy my ml hR hM rfl rfl hcat d kk
theorem r_callSr5 (X : Cx G A p s m args meth c own cc nL) {y : MethodName} {cb : ByteArray} {n idx d : Nat} {v1 v2 v3 v4 v5 : Value} {r : Nat} {rt : FieldType} {M' : Mem} (vy : Cond.static y ∈ gtb) (my : MY y cb n (some rt) 5) (ml : Cond.methodLink own idx y ∈ gtb) (hR : d + 1 ≤ R.frames ∧ 8 + (n + 11) + 36 * d ≤ R.locals ∧ ce + 0 ≤ R.cells ∧ sl + 0 ≤ R.slots)
    (hM : Met l y (wsO y cb n (some rt)) (rmO d) (PcO G [v1, v2, v3, v4, v5] M) (QrO G (AA G) r M') 0 0 (AA G)) (hcat : (st.map fun v => v.category).sum ≤ 8) (d : decode cc pc = .ok (.invokestatic idx, 3))
    (kk : T G A p l e R s m args below meth c nL ce sl Q (pc + 3) lo (.ref r :: st) M') : T G A p l e R s m args below meth c nL ce sl Q pc lo (v5 :: v4 :: v3 :: v2 :: v1 :: st) M :=
  r_callSr X (As := [v1, v2, v3, v4, v5]) vy my ml hR hM rfl rfl hcat d kk
theorem r_iret (X : Cx G A p s m args meth c own cc nL) (hr : meth.sig.returnType = some .int) {x : Int32} (d : decode cc pc = .ok (.ireturn, 1)) : T G A p l e R s m args below meth c nL ce sl (MQ below (QiO G A x M) args s ce sl A) pc lo [.int x] M :=
  fun H locs ls hS hP hl => W.iret X.1 X.2.1 hr (fun t ht hw => ⟨⟨x, (), rfl, rfl, by show va_P G.1 gcl (wl G _) t.heap; rw [ht]; exact hP⟩, hS.F ht⟩) hS.2.2 d X.2.2.2.2.2.1
theorem r_zretc (X : Cx G A p s m args meth c own cc nL) (hr : meth.sig.returnType = some .boolean) {x : Int32} (hx : narrow .boolean (.int x) = .int x) (d : decode cc pc = .ok (.ireturn, 1)) : T G A p l e R s m args below meth c nL ce sl (MQ below (QiO G A x M) args s ce sl A) pc lo [.int x] M :=
  fun H locs ls hS hP hl => W.zret X.1 X.2.1 hr hx (fun t ht hw => ⟨⟨x, (), rfl, rfl, by show va_P G.1 gcl (wl G _) t.heap; rw [ht]; exact hP⟩, hS.F ht⟩) hS.2.2 d X.2.2.2.2.2.1
theorem r_zret (X : Cx G A p s m args meth c own cc nL) (hr : meth.sig.returnType = some .boolean) {x r : Int32} {M' : Mem} (d : decode cc pc = .ok (.ireturn, 1)) (h : (if ¬ (x = 0 ∨ x = 1) then none else some (x, M)) = some (r, M')) : T G A p l e R s m args below meth c nL ce sl (MQ below (QiO G A r M') args s ce sl A) pc lo [.int x] M :=
  ck h fun hx h => by
    cases h
    exact r_zretc X hr (by rcases Decidable.not_not.mp hx with rfl | rfl <;> decide +kernel) d
theorem r_lret (X : Cx G A p s m args meth c own cc nL) (hr : meth.sig.returnType = some .long) {x : Int64} (d : decode cc pc = .ok (.lreturn, 1)) : T G A p l e R s m args below meth c nL ce sl (MQ below (QlO G A x M) args s ce sl A) pc lo [.long x] M :=
  fun H locs ls hS hP hl => W.lret X.1 X.2.1 hr (fun t ht hw => ⟨⟨x, (), rfl, rfl, by show va_P G.1 gcl (wl G _) t.heap; rw [ht]; exact hP⟩, hS.F ht⟩) hS.2.2 d X.2.2.2.2.2.1
theorem r_vret (X : Cx G A p s m args meth c own cc nL) (hr : meth.sig.returnType = none) (d : decode cc pc = .ok (.return_, 1)) : T G A p l e R s m args below meth c nL ce sl (MQ below (QvO G A M) args s ce sl A) pc lo [] M :=
  fun H locs ls hS hP hl => W.vret X.1 X.2.1 hr (fun t ht hw => ⟨⟨(), rfl, trivial, by show va_P G.1 gcl (wl G _) t.heap; rw [ht]; exact hP⟩, hS.F ht⟩) hS.2.2 d X.2.2.2.2.2.1
theorem r_aret (X : Cx G A p s m args meth c own cc nL) {C : String} (hr : meth.sig.returnType = some (.object C)) {a : Nat} (d : decode cc pc = .ok (.areturn, 1)) : T G A p l e R s m args below meth c nL ce sl (MQ below (QrO G A a M) args s ce sl A) pc lo [.ref a] M :=
  fun H locs ls hS hP hl => W.aret X.1 X.2.1 hr (Or.inl ⟨C, rfl⟩) (Or.inr ⟨a, rfl⟩) (fun t ht hw => ⟨⟨(), a, rfl, trivial, rfl, by show va_P G.1 gcl (wl G _) t.heap; rw [ht]; exact hP⟩, hS.F ht⟩) hS.2.2 d X.2.2.2.2.2.1
theorem met_of {y : MethodName} {d : Nat} {avs : List Value} {ret : Option FieldType} {Qc : Array Value → State → Outcome → State → Prop} (hn : y.cls = own) (hp : plainName y.cls = true) (hlen : (lg_sl avs).length ≤ nL)
    (body : ∀ (p : Program) (e : Env) (s : State) (m : MethodId) (args : Array Value) (below : List Frame) (meth : Method) (c : Code), Cx G (AA G) p s m args meth c own cc nL → meth.sig.returnType = ret → T G (AA G) p l e (rmO d) s m args below meth c nL 0 0 (MQ below Qc args s 0 0 (AA G)) 0 (lv_args 0 avs) [] M) :
    Met l y (wsO y cc nL ret) (rmO d) (PcO G avs M) Qc 0 0 (AA G) := by
  refine Met.ofW (cc := cc) (maxL := nL) (ret := ret) hp rfl ?_
  intro p e s m args below meth c s₁ B hml hv
  obtain ⟨rfl, hI, hK, hE, hP⟩ := hv
  have hts := atoms_spec (ws := wsO y cc nL ret) B.pre
  have X : Cx G (AA G) p s m avs.toArray meth c own cc nL := ⟨B.exec, B.bytes, hml, by rw [← hn]; exact findClass_of_methodNamed B.named, fun w h => hts w (List.mem_cons_of_mem _ h), B.notSynchronized, fun _ h => h, hI, hK, hE⟩
  have hl := lv_entry avs (n := nL) hlen
  rw [lg_entry_eq]
  exact body p e s m avs.toArray below meth c X B.returns s.heap [] _ va_S.rf hP hl
end CALLS
