/-! ===== CATCHING: the law's own methods around a call ===== -/
def catchX {ρ σ : Type} (o : Option ((ρ ⊕ Nat) × Mem)) (kf : ρ → Mem → Option (σ × Mem)) (ke : Nat → Mem → Option (σ × Mem)) : Option (σ × Mem) := match o with
  | none => none
  | some (.inl v, M) => kf v M
  | some (.inr e, M) => ke e M
theorem catchXE {ρ σ : Type} {o : Option ((ρ ⊕ Nat) × Mem)} {kf : ρ → Mem → Option (σ × Mem)} {ke : Nat → Mem → Option (σ × Mem)} {y : σ × Mem} {P : Prop} (h : catchX o kf ke = some y) (K : ∀ (r : ρ ⊕ Nat) (M : Mem), o = some (r, M) → catchX (some (r, M)) kf ke = some y → P) : P := by
  cases o with
  | none => cases h
  | some q => exact K q.1 q.2 rfl h
theorem swN {x k : Nat} {α : Type} {F1 F2 : Option α} {o : α} {P : Prop} (h : (if x = k then F1 else F2) = some o) (k1 : x = k → F1 = some o → P) (k2 : ¬ x = k → F2 = some o → P) : P := by
  by_cases hc : x = k
  · rw [if_pos hc] at h; exact k1 hc h
  · rw [if_neg hc] at h; exact k2 hc h
def CxH (G : GG) (A : Nat → Prop) (l : Launch) (s : State) : Prop := l.stackTraces = false ∧ SX s ∧ ZX A s s.heap ∧ (∀ q, s.heap.size ≤ q → A q)
def wsH (y : MethodName) (cc : ByteArray) (n : Nat) (ret : Option FieldType) (hh : List (Nat × Nat × Nat × Nat)) : List Cond := Cond.codeWith y cc n ret hh :: gtb
section HROWS
variable {G : GG} {A : Nat → Prop} {p : Program} {l : Launch} {e : Env} {R : Room} {s : State} {m : MethodId} {args : Array Value} {below : List Frame} {meth : Method} {c : Code} {nL ce sl mc ms : Nat} {Q : State → Prop} {own : String} {cc : ByteArray}
  {pc : Nat} {lo : List (Nat × Value)} {st : List Value} {M : Mem} {Qc : Array Value → State → Outcome → State → Prop}
theorem AX_subH (X : Cx G A p s m args meth c own cc nL) (Y : CxH G A l s) {H : Heap} {locs : List Loc} (hS : va_S A s.heap H locs) : ∀ q, AX G H.size q → A q := fun q h => h.elim (X.2.2.2.2.2.2.1 q) (fun z => Y.2.2.2 q (Nat.le_trans hS.1 z))
theorem PcX_atH (X : Cx G A p s m args meth c own cc nL) (Y : CxH G A l s) {H : Heap} {locs : List Loc} {avs : List Value} (hS : va_S A s.heap H locs) (hP : va_P G.1 gcl (wl G M) H) : ∀ U : State, U.heap = H → s.WarmedH U.vm → PcX G H.size avs M avs.toArray U := fun U hU hW =>
  ⟨rfl, by rw [hU], X.2.2.2.2.2.2.2.1, va_K.moved hW.alike X.2.2.2.2.2.2.2.2.1, by rw [hU]; exact EN.moved hW.alike ((X.2.2.2.2.2.2.2.2.2.kept fun a h1 h2 => hS.2.1 a h1 h2).narrow (AX_subH X Y hS)), SX.warm hW Y.2.1, by rw [hU]; exact ZX.moved hW.alike ((Y.2.2.1.kept fun a h1 h2 => hS.2.1 a h1 h2).narrow (AX_subH X Y hS)), by rw [hU]; exact hP⟩
/-- at a throw of q, of the class E -/
def TX (G : GG) (A : Nat → Prop) (p : Program) (l : Launch) (e : Env) (R : Room) (s : State) (m : MethodId) (args : Array Value) (below : List Frame) (meth : Method) (c : Code) (nL ce sl : Nat) (Q : State → Prop) (pc : Nat) (lo : List (Nat × Value)) (st : List Value) (E : String) (q : Nat) (M : Mem) : Prop :=
  ∀ (H : Heap) (locs : List Loc) (ls : Array Slot) (cx : Cell), va_S A s.heap H locs → va_P G.1 gcl (wl G M) H → lv_has ls nL lo → H[q]? = some cx → cx.vm = .none → s.vm.findClass E = some cx.cls → vx_W p l e R s m args below meth c H locs ce sl Q (F0 m pc ls st) q
theorem r_catch (X : Cx G A p s m args meth c own cc nL) (Y : CxH G A l s) {hh : List (Nat × Nat × Nat × Nat)} (ht : c.exceptionTable.toList = tableOf hh) {k q : Nat} (hk : k < 4) (j : Nat) {x : Nat × Nat × Nat × Nat} (hj : hh = hh.take j ++ x :: hh.drop (j + 1))
    (hpass : ∀ z ∈ hh.take j, z.2.2.2 ≠ 0 ∧ ∃ i, i < 4 ∧ k ≠ i ∧ Cond.classLink own z.2.2.2 (exn i) ∈ gtb) (hx : covers ⟨x.1, x.2.1, x.2.2.1, x.2.2.2⟩ pc = true) (h0 : x.2.2.2 ≠ 0) (hlink : Cond.classLink own x.2.2.2 (exn k) ∈ gtb)
    (kk : T G A p l e R s m args below meth c nL ce sl Q x.2.2.1 lo [.ref q] M) : TX G A p l e R s m args below meth c nL ce sl Q pc lo st (exn k) q M := by
  intro H locs ls cx hS hP hl h1 h2 h3
  have hcast : (Cond.castable (exn k) (exn k)).before args s = true := by
    have hm : Cond.castable (exn k) (exn k) ∈ atX k := by
      match k, hk with
      | 0, _ => decide +kernel
      | 1, _ => decide +kernel
      | 2, _ => decide +kernel
      | 3, _ => decide +kernel
    exact va_Nw.use rfl (Y.2.1.1 k hk _ hm rfl)
  refine vx_catch (name := exn k) X.2.2.2.1 (tableOf (hh.take j)) ⟨x.1, x.2.1, x.2.2.1, x.2.2.2⟩ (tableOf (hh.drop (j + 1))) (by rw [ht]; conv => lhs; rw [hj]
                                                                                                                                 simp [tableOf]) (fun z hz => ?_) hx h0 (X.2.2.2.2.1 _ hlink) hcast h1 h2 h3 (kk H locs ls hS hP hl)
  obtain ⟨y, hy, rfl⟩ := List.mem_map.mp hz
  obtain ⟨g1, i, g2, g3, g4⟩ := hpass y hy
  exact Or.inr ⟨g1, exn i, X.2.2.2.2.1 _ g4, Y.2.1.2.2 k i hk g2 g3⟩
theorem metH_of {y : MethodName} {d k sz : Nat} {avs : List Value} {ret : Option FieldType} {hh : List (Nat × Nat × Nat × Nat)} (hlf : l.stackTraces = false) (hn : y.cls = own) (hp : plainName y.cls = true) (hlen : (lg_sl avs).length ≤ nL)
    (body : ∀ (p : Program) (e : Env) (s : State) (m : MethodId) (args : Array Value) (below : List Frame) (meth : Method) (c : Code), Cx G (AX G sz) p s m args meth c own cc nL → CxH G (AX G sz) l s → c.exceptionTable.toList = tableOf hh → meth.sig.returnType = ret → T G (AX G sz) p l e (rmX d k) s m args below meth c nL 0 0 (MQ below Qc args s k (6 * k) (AX G sz)) 0 (lv_args 0 avs) [] M) :
    Met l y (wsH y cc nL ret hh) (rmX d k) (PcX G sz avs M) Qc k (6 * k) (AX G sz) := by
  refine MetFree.of_bodyS (code := cc) (maxLocals := nL) (ret := ret) hp ?_ ?_
  · intro args s m h hn
    obtain ⟨m9, meth, c, hn9, h1, h2, h3, h4, -, h5, h6, -⟩ := Cond.codeWith_spec (atoms_spec (ws := wsH y cc nL ret hh) h _ List.mem_cons_self)
    cases hn.symm.trans hn9
    exact ⟨meth, c, h1, h2, h3, h4, h5, h6⟩
  · intro p e s m args below meth c s₁ B hml hv _
    have hh0 : s₁.heap = s.heap := by rw [B.state]; rfl
    have hts := atoms_spec (ws := wsH y cc nL ret hh) B.pre
    have htab := vx_table (x := y) B (hts _ List.mem_cons_self)
    obtain ⟨rfl, hsz, hI, hK, hE, hSX, hZ, hP⟩ := hv
    subst hsz
    have X : Cx G (AX G s.heap.size) p s m avs.toArray meth c own cc nL := ⟨B.exec, B.bytes, hml, by rw [← hn]; exact findClass_of_methodNamed B.named, fun w h => hts w (List.mem_cons_of_mem _ h), B.notSynchronized, fun _ h => Or.inl h, hI, hK, hE⟩
    have hl := lv_entry avs (n := nL) hlen
    have K := body p e s m avs.toArray below meth c X ⟨hlf, hSX, hZ, fun q h => Or.inr h⟩ htab B.returns s.heap [] _ va_S.rf hP hl
    rw [← lg_entry_eq] at K
    obtain ⟨t, a1, o, b1, b2, b3⟩ := K s₁ hh0 (Stand.of_body B)
    exact ⟨t, o, a1, b1, b2, b3⟩

theorem r_callHi0 (X : Cx G A p s m args meth c own cc nL) (Y : CxH G A l s) {o : Oid} {y : MethodName} {cb : ByteArray} {n idx d k1 : Nat} {r1 : Int32 ⊕ Nat} {rt : FieldType} {M1 : Mem} {σ : Type} {kf : Int32 → Mem → Option (σ × Mem)} {ke : Nat → Mem → Option (σ × Mem)} {r : σ × Mem} (ho : okO G.2.2.2.2 o) (hC : (gcl[o.1]?).map (fun q => q.1) = some y.cls) (vy : VY y) (my : MY y cb n (some rt) 0) (ml : Cond.methodLink own idx y ∈ gtb) (hR : d + 1 ≤ R.frames ∧ 8 + (n + 11) + 36 * d ≤ R.locals ∧ ce + k1 ≤ R.cells ∧ sl + 6 * k1 ≤ R.slots)
    (hM : ∀ sz, vx_Met l y (wsO y cb n (some rt)) (rmX d k1) (PcX G sz (.ref (G.2.1 o) :: []) M) (QiX G (AX G sz) r1 M1) (XX G (AX G sz) r1 M1) k1 (6 * k1) (AX G sz)) (h : catchX (some (r1, M1)) kf ke = some r) (hcat : (st.map fun v => v.category).sum ≤ 8) (d : decode cc pc = .ok (.invokevirtual idx, 3))
    (kk : ∀ v : Int32, r1 = .inl v → kf v M1 = some r → T G A p l e R s m args below meth c nL (ce + k1) (sl + 6 * k1) Q (pc + 3) lo (.int v :: st) M1)
    (kx : ∀ k9 q9 : Nat, k9 < 4 → ke k9 M1 = some r → TX G A p l e R s m args below meth c nL (ce + k1) (sl + 6 * k1) Q pc lo st (exn k9) q9 M1) : T G A p l e R s m args below meth c nL ce sl Q pc lo (.ref (G.2.1 o) :: st) M := by
  intro H locs ls hS hP hl
  exact vx_calli (vx_runV (As := []) (rest := st) ⟨X.1, X.2.1, X.2.2.1, X.2.2.2.1, X.2.2.2.2.1⟩ (hM H.size) ⟨callB_tblX X my ml ⟨hR.1, hR.2.1⟩, X.2.2.2.2.1 _ vy.1, X.2.2.2.2.1 _ vy.2⟩ ⟨PcX_blind, recv_at X hP ho hC, PcX_atH X Y hS hP⟩ rfl rfl hl.1 rfl (lv_room hcat) d ⟨hR.2.2.1, hR.2.2.2⟩) hS (fun q _ h => AX_subH X Y hS q h) (fun q h => AX_subH X Y hS q h) (fun q _ h => AX_subH X Y hS q h) (fun E cx q9 k9 t H1 locs1 ht hvm hw hB hz hk hS1 hc1 hc2 hc3 => by
    obtain ⟨hw, hk4⟩ := hw
    obtain ⟨hE, hB⟩ := hB
    subst hw
    subst hE
    rw [ht] at hB
    exact kx k9 q9 hk4 h H1 locs1 ls cx hS1 hB hl hc1 hc2 hc3) (fun v u t H1 locs1 ht hvm hw hB hz hk hS1 => by
    subst hw
    rw [ht] at hB
    exact kk v rfl h H1 locs1 ls hS1 hB hl)
theorem r_callHi1 (X : Cx G A p s m args meth c own cc nL) (Y : CxH G A l s) {o : Oid} {y : MethodName} {cb : ByteArray} {n idx d k1 : Nat} {v1 : Value} {r1 : Int32 ⊕ Nat} {rt : FieldType} {M1 : Mem} {σ : Type} {kf : Int32 → Mem → Option (σ × Mem)} {ke : Nat → Mem → Option (σ × Mem)} {r : σ × Mem} (ho : okO G.2.2.2.2 o) (hC : (gcl[o.1]?).map (fun q => q.1) = some y.cls) (vy : VY y) (my : MY y cb n (some rt) 1) (ml : Cond.methodLink own idx y ∈ gtb) (hR : d + 1 ≤ R.frames ∧ 8 + (n + 11) + 36 * d ≤ R.locals ∧ ce + k1 ≤ R.cells ∧ sl + 6 * k1 ≤ R.slots)
    (hM : ∀ sz, vx_Met l y (wsO y cb n (some rt)) (rmX d k1) (PcX G sz (.ref (G.2.1 o) :: [v1]) M) (QiX G (AX G sz) r1 M1) (XX G (AX G sz) r1 M1) k1 (6 * k1) (AX G sz)) (h : catchX (some (r1, M1)) kf ke = some r) (hcat : (st.map fun v => v.category).sum ≤ 8) (d : decode cc pc = .ok (.invokevirtual idx, 3))
    (kk : ∀ v : Int32, r1 = .inl v → kf v M1 = some r → T G A p l e R s m args below meth c nL (ce + k1) (sl + 6 * k1) Q (pc + 3) lo (.int v :: st) M1)
    (kx : ∀ k9 q9 : Nat, k9 < 4 → ke k9 M1 = some r → TX G A p l e R s m args below meth c nL (ce + k1) (sl + 6 * k1) Q pc lo st (exn k9) q9 M1) : T G A p l e R s m args below meth c nL ce sl Q pc lo (v1 :: .ref (G.2.1 o) :: st) M := by
  intro H locs ls hS hP hl
  exact vx_calli (vx_runV (As := [v1]) (rest := st) ⟨X.1, X.2.1, X.2.2.1, X.2.2.2.1, X.2.2.2.2.1⟩ (hM H.size) ⟨callB_tblX X my ml ⟨hR.1, hR.2.1⟩, X.2.2.2.2.1 _ vy.1, X.2.2.2.2.1 _ vy.2⟩ ⟨PcX_blind, recv_at X hP ho hC, PcX_atH X Y hS hP⟩ rfl rfl hl.1 rfl (lv_room hcat) d ⟨hR.2.2.1, hR.2.2.2⟩) hS (fun q _ h => AX_subH X Y hS q h) (fun q h => AX_subH X Y hS q h) (fun q _ h => AX_subH X Y hS q h) (fun E cx q9 k9 t H1 locs1 ht hvm hw hB hz hk hS1 hc1 hc2 hc3 => by
    obtain ⟨hw, hk4⟩ := hw
    obtain ⟨hE, hB⟩ := hB
    subst hw
    subst hE
    rw [ht] at hB
    exact kx k9 q9 hk4 h H1 locs1 ls cx hS1 hB hl hc1 hc2 hc3) (fun v u t H1 locs1 ht hvm hw hB hz hk hS1 => by
    subst hw
    rw [ht] at hB
    exact kk v rfl h H1 locs1 ls hS1 hB hl)
theorem r_callHi2 (X : Cx G A p s m args meth c own cc nL) (Y : CxH G A l s) {o : Oid} {y : MethodName} {cb : ByteArray} {n idx d k1 : Nat} {v1 v2 : Value} {r1 : Int32 ⊕ Nat} {rt : FieldType} {M1 : Mem} {σ : Type} {kf : Int32 → Mem → Option (σ × Mem)} {ke : Nat → Mem → Option (σ × Mem)} {r : σ × Mem} (ho : okO G.2.2.2.2 o) (hC : (gcl[o.1]?).map (fun q => q.1) = some y.cls) (vy : VY y) (my : MY y cb n (some rt) 2) (ml : Cond.methodLink own idx y ∈ gtb) (hR : d + 1 ≤ R.frames ∧ 8 + (n + 11) + 36 * d ≤ R.locals ∧ ce + k1 ≤ R.cells ∧ sl + 6 * k1 ≤ R.slots)
    (hM : ∀ sz, vx_Met l y (wsO y cb n (some rt)) (rmX d k1) (PcX G sz (.ref (G.2.1 o) :: [v1, v2]) M) (QiX G (AX G sz) r1 M1) (XX G (AX G sz) r1 M1) k1 (6 * k1) (AX G sz)) (h : catchX (some (r1, M1)) kf ke = some r) (hcat : (st.map fun v => v.category).sum ≤ 8) (d : decode cc pc = .ok (.invokevirtual idx, 3))
    (kk : ∀ v : Int32, r1 = .inl v → kf v M1 = some r → T G A p l e R s m args below meth c nL (ce + k1) (sl + 6 * k1) Q (pc + 3) lo (.int v :: st) M1)
    (kx : ∀ k9 q9 : Nat, k9 < 4 → ke k9 M1 = some r → TX G A p l e R s m args below meth c nL (ce + k1) (sl + 6 * k1) Q pc lo st (exn k9) q9 M1) : T G A p l e R s m args below meth c nL ce sl Q pc lo (v2 :: v1 :: .ref (G.2.1 o) :: st) M := by
  intro H locs ls hS hP hl
  exact vx_calli (vx_runV (As := [v1, v2]) (rest := st) ⟨X.1, X.2.1, X.2.2.1, X.2.2.2.1, X.2.2.2.2.1⟩ (hM H.size) ⟨callB_tblX X my ml ⟨hR.1, hR.2.1⟩, X.2.2.2.2.1 _ vy.1, X.2.2.2.2.1 _ vy.2⟩ ⟨PcX_blind, recv_at X hP ho hC, PcX_atH X Y hS hP⟩ rfl rfl hl.1 rfl (lv_room hcat) d ⟨hR.2.2.1, hR.2.2.2⟩) hS (fun q _ h => AX_subH X Y hS q h) (fun q h => AX_subH X Y hS q h) (fun q _ h => AX_subH X Y hS q h) (fun E cx q9 k9 t H1 locs1 ht hvm hw hB hz hk hS1 hc1 hc2 hc3 => by
    obtain ⟨hw, hk4⟩ := hw
    obtain ⟨hE, hB⟩ := hB
    subst hw
    subst hE
    rw [ht] at hB
    exact kx k9 q9 hk4 h H1 locs1 ls cx hS1 hB hl hc1 hc2 hc3) (fun v u t H1 locs1 ht hvm hw hB hz hk hS1 => by
    subst hw
    rw [ht] at hB
    exact kk v rfl h H1 locs1 ls hS1 hB hl)
theorem r_callHi3 (X : Cx G A p s m args meth c own cc nL) (Y : CxH G A l s) {o : Oid} {y : MethodName} {cb : ByteArray} {n idx d k1 : Nat} {v1 v2 v3 : Value} {r1 : Int32 ⊕ Nat} {rt : FieldType} {M1 : Mem} {σ : Type} {kf : Int32 → Mem → Option (σ × Mem)} {ke : Nat → Mem → Option (σ × Mem)} {r : σ × Mem} (ho : okO G.2.2.2.2 o) (hC : (gcl[o.1]?).map (fun q => q.1) = some y.cls) (vy : VY y) (my : MY y cb n (some rt) 3) (ml : Cond.methodLink own idx y ∈ gtb) (hR : d + 1 ≤ R.frames ∧ 8 + (n + 11) + 36 * d ≤ R.locals ∧ ce + k1 ≤ R.cells ∧ sl + 6 * k1 ≤ R.slots)
    (hM : ∀ sz, vx_Met l y (wsO y cb n (some rt)) (rmX d k1) (PcX G sz (.ref (G.2.1 o) :: [v1, v2, v3]) M) (QiX G (AX G sz) r1 M1) (XX G (AX G sz) r1 M1) k1 (6 * k1) (AX G sz)) (h : catchX (some (r1, M1)) kf ke = some r) (hcat : (st.map fun v => v.category).sum ≤ 8) (d : decode cc pc = .ok (.invokevirtual idx, 3))
    (kk : ∀ v : Int32, r1 = .inl v → kf v M1 = some r → T G A p l e R s m args below meth c nL (ce + k1) (sl + 6 * k1) Q (pc + 3) lo (.int v :: st) M1)
    (kx : ∀ k9 q9 : Nat, k9 < 4 → ke k9 M1 = some r → TX G A p l e R s m args below meth c nL (ce + k1) (sl + 6 * k1) Q pc lo st (exn k9) q9 M1) : T G A p l e R s m args below meth c nL ce sl Q pc lo (v3 :: v2 :: v1 :: .ref (G.2.1 o) :: st) M := by
  intro H locs ls hS hP hl
  exact vx_calli (vx_runV (As := [v1, v2, v3]) (rest := st) ⟨X.1, X.2.1, X.2.2.1, X.2.2.2.1, X.2.2.2.2.1⟩ (hM H.size) ⟨callB_tblX X my ml ⟨hR.1, hR.2.1⟩, X.2.2.2.2.1 _ vy.1, X.2.2.2.2.1 _ vy.2⟩ ⟨PcX_blind, recv_at X hP ho hC, PcX_atH X Y hS hP⟩ rfl rfl hl.1 rfl (lv_room hcat) d ⟨hR.2.2.1, hR.2.2.2⟩) hS (fun q _ h => AX_subH X Y hS q h) (fun q h => AX_subH X Y hS q h) (fun q _ h => AX_subH X Y hS q h) (fun E cx q9 k9 t H1 locs1 ht hvm hw hB hz hk hS1 hc1 hc2 hc3 => by
    obtain ⟨hw, hk4⟩ := hw
    obtain ⟨hE, hB⟩ := hB
    subst hw
    subst hE
    rw [ht] at hB
    exact kx k9 q9 hk4 h H1 locs1 ls cx hS1 hB hl hc1 hc2 hc3) (fun v u t H1 locs1 ht hvm hw hB hz hk hS1 => by
    subst hw
    rw [ht] at hB
    exact kk v rfl h H1 locs1 ls hS1 hB hl)
theorem r_callHi4 (X : Cx G A p s m args meth c own cc nL) (Y : CxH G A l s) {o : Oid} {y : MethodName} {cb : ByteArray} {n idx d k1 : Nat} {v1 v2 v3 v4 : Value} {r1 : Int32 ⊕ Nat} {rt : FieldType} {M1 : Mem} {σ : Type} {kf : Int32 → Mem → Option (σ × Mem)} {ke : Nat → Mem → Option (σ × Mem)} {r : σ × Mem} (ho : okO G.2.2.2.2 o) (hC : (gcl[o.1]?).map (fun q => q.1) = some y.cls) (vy : VY y) (my : MY y cb n (some rt) 4) (ml : Cond.methodLink own idx y ∈ gtb) (hR : d + 1 ≤ R.frames ∧ 8 + (n + 11) + 36 * d ≤ R.locals ∧ ce + k1 ≤ R.cells ∧ sl + 6 * k1 ≤ R.slots)
    (hM : ∀ sz, vx_Met l y (wsO y cb n (some rt)) (rmX d k1) (PcX G sz (.ref (G.2.1 o) :: [v1, v2, v3, v4]) M) (QiX G (AX G sz) r1 M1) (XX G (AX G sz) r1 M1) k1 (6 * k1) (AX G sz)) (h : catchX (some (r1, M1)) kf ke = some r) (hcat : (st.map fun v => v.category).sum ≤ 8) (d : decode cc pc = .ok (.invokevirtual idx, 3))
    (kk : ∀ v : Int32, r1 = .inl v → kf v M1 = some r → T G A p l e R s m args below meth c nL (ce + k1) (sl + 6 * k1) Q (pc + 3) lo (.int v :: st) M1)
    (kx : ∀ k9 q9 : Nat, k9 < 4 → ke k9 M1 = some r → TX G A p l e R s m args below meth c nL (ce + k1) (sl + 6 * k1) Q pc lo st (exn k9) q9 M1) : T G A p l e R s m args below meth c nL ce sl Q pc lo (v4 :: v3 :: v2 :: v1 :: .ref (G.2.1 o) :: st) M := by
  intro H locs ls hS hP hl
  exact vx_calli (vx_runV (As := [v1, v2, v3, v4]) (rest := st) ⟨X.1, X.2.1, X.2.2.1, X.2.2.2.1, X.2.2.2.2.1⟩ (hM H.size) ⟨callB_tblX X my ml ⟨hR.1, hR.2.1⟩, X.2.2.2.2.1 _ vy.1, X.2.2.2.2.1 _ vy.2⟩ ⟨PcX_blind, recv_at X hP ho hC, PcX_atH X Y hS hP⟩ rfl rfl hl.1 rfl (lv_room hcat) d ⟨hR.2.2.1, hR.2.2.2⟩) hS (fun q _ h => AX_subH X Y hS q h) (fun q h => AX_subH X Y hS q h) (fun q _ h => AX_subH X Y hS q h) (fun E cx q9 k9 t H1 locs1 ht hvm hw hB hz hk hS1 hc1 hc2 hc3 => by
    obtain ⟨hw, hk4⟩ := hw
    obtain ⟨hE, hB⟩ := hB
    subst hw
    subst hE
    rw [ht] at hB
    exact kx k9 q9 hk4 h H1 locs1 ls cx hS1 hB hl hc1 hc2 hc3) (fun v u t H1 locs1 ht hvm hw hB hz hk hS1 => by
    subst hw
    rw [ht] at hB
    exact kk v rfl h H1 locs1 ls hS1 hB hl)
theorem r_callHi5 (X : Cx G A p s m args meth c own cc nL) (Y : CxH G A l s) {o : Oid} {y : MethodName} {cb : ByteArray} {n idx d k1 : Nat} {v1 v2 v3 v4 v5 : Value} {r1 : Int32 ⊕ Nat} {rt : FieldType} {M1 : Mem} {σ : Type} {kf : Int32 → Mem → Option (σ × Mem)} {ke : Nat → Mem → Option (σ × Mem)} {r : σ × Mem} (ho : okO G.2.2.2.2 o) (hC : (gcl[o.1]?).map (fun q => q.1) = some y.cls) (vy : VY y) (my : MY y cb n (some rt) 5) (ml : Cond.methodLink own idx y ∈ gtb) (hR : d + 1 ≤ R.frames ∧ 8 + (n + 11) + 36 * d ≤ R.locals ∧ ce + k1 ≤ R.cells ∧ sl + 6 * k1 ≤ R.slots)
    (hM : ∀ sz, vx_Met l y (wsO y cb n (some rt)) (rmX d k1) (PcX G sz (.ref (G.2.1 o) :: [v1, v2, v3, v4, v5]) M) (QiX G (AX G sz) r1 M1) (XX G (AX G sz) r1 M1) k1 (6 * k1) (AX G sz)) (h : catchX (some (r1, M1)) kf ke = some r) (hcat : (st.map fun v => v.category).sum ≤ 8) (d : decode cc pc = .ok (.invokevirtual idx, 3))
    (kk : ∀ v : Int32, r1 = .inl v → kf v M1 = some r → T G A p l e R s m args below meth c nL (ce + k1) (sl + 6 * k1) Q (pc + 3) lo (.int v :: st) M1)
    (kx : ∀ k9 q9 : Nat, k9 < 4 → ke k9 M1 = some r → TX G A p l e R s m args below meth c nL (ce + k1) (sl + 6 * k1) Q pc lo st (exn k9) q9 M1) : T G A p l e R s m args below meth c nL ce sl Q pc lo (v5 :: v4 :: v3 :: v2 :: v1 :: .ref (G.2.1 o) :: st) M := by
  intro H locs ls hS hP hl
  exact vx_calli (vx_runV (As := [v1, v2, v3, v4, v5]) (rest := st) ⟨X.1, X.2.1, X.2.2.1, X.2.2.2.1, X.2.2.2.2.1⟩ (hM H.size) ⟨callB_tblX X my ml ⟨hR.1, hR.2.1⟩, X.2.2.2.2.1 _ vy.1, X.2.2.2.2.1 _ vy.2⟩ ⟨PcX_blind, recv_at X hP ho hC, PcX_atH X Y hS hP⟩ rfl rfl hl.1 rfl (lv_room hcat) d ⟨hR.2.2.1, hR.2.2.2⟩) hS (fun q _ h => AX_subH X Y hS q h) (fun q h => AX_subH X Y hS q h) (fun q _ h => AX_subH X Y hS q h) (fun E cx q9 k9 t H1 locs1 ht hvm hw hB hz hk hS1 hc1 hc2 hc3 => by
    obtain ⟨hw, hk4⟩ := hw
    obtain ⟨hE, hB⟩ := hB
    subst hw
    subst hE
    rw [ht] at hB
    exact kx k9 q9 hk4 h H1 locs1 ls cx hS1 hB hl hc1 hc2 hc3) (fun v u t H1 locs1 ht hvm hw hB hz hk hS1 => by
    subst hw
    rw [ht] at hB
    exact kk v rfl h H1 locs1 ls hS1 hB hl)
theorem r_callHl0 (X : Cx G A p s m args meth c own cc nL) (Y : CxH G A l s) {o : Oid} {y : MethodName} {cb : ByteArray} {n idx d k1 : Nat} {r1 : Int64 ⊕ Nat} {M1 : Mem} {σ : Type} {kf : Int64 → Mem → Option (σ × Mem)} {ke : Nat → Mem → Option (σ × Mem)} {r : σ × Mem} (ho : okO G.2.2.2.2 o) (hC : (gcl[o.1]?).map (fun q => q.1) = some y.cls) (vy : VY y) (my : MY y cb n (some .long) 0) (ml : Cond.methodLink own idx y ∈ gtb) (hR : d + 1 ≤ R.frames ∧ 8 + (n + 11) + 36 * d ≤ R.locals ∧ ce + k1 ≤ R.cells ∧ sl + 6 * k1 ≤ R.slots)
    (hM : ∀ sz, vx_Met l y (wsO y cb n (some .long)) (rmX d k1) (PcX G sz (.ref (G.2.1 o) :: []) M) (QlX G (AX G sz) r1 M1) (XX G (AX G sz) r1 M1) k1 (6 * k1) (AX G sz)) (h : catchX (some (r1, M1)) kf ke = some r) (hcat : (st.map fun v => v.category).sum ≤ 8) (d : decode cc pc = .ok (.invokevirtual idx, 3))
    (kk : ∀ v : Int64, r1 = .inl v → kf v M1 = some r → T G A p l e R s m args below meth c nL (ce + k1) (sl + 6 * k1) Q (pc + 3) lo (.long v :: st) M1)
    (kx : ∀ k9 q9 : Nat, k9 < 4 → ke k9 M1 = some r → TX G A p l e R s m args below meth c nL (ce + k1) (sl + 6 * k1) Q pc lo st (exn k9) q9 M1) : T G A p l e R s m args below meth c nL ce sl Q pc lo (.ref (G.2.1 o) :: st) M := by
  intro H locs ls hS hP hl
  exact vx_calll (vx_runV (As := []) (rest := st) ⟨X.1, X.2.1, X.2.2.1, X.2.2.2.1, X.2.2.2.2.1⟩ (hM H.size) ⟨callB_tblX X my ml ⟨hR.1, hR.2.1⟩, X.2.2.2.2.1 _ vy.1, X.2.2.2.2.1 _ vy.2⟩ ⟨PcX_blind, recv_at X hP ho hC, PcX_atH X Y hS hP⟩ rfl rfl hl.1 rfl (lv_room hcat) d ⟨hR.2.2.1, hR.2.2.2⟩) hS (fun q _ h => AX_subH X Y hS q h) (fun q h => AX_subH X Y hS q h) (fun q _ h => AX_subH X Y hS q h) (fun E cx q9 k9 t H1 locs1 ht hvm hw hB hz hk hS1 hc1 hc2 hc3 => by
    obtain ⟨hw, hk4⟩ := hw
    obtain ⟨hE, hB⟩ := hB
    subst hw
    subst hE
    rw [ht] at hB
    exact kx k9 q9 hk4 h H1 locs1 ls cx hS1 hB hl hc1 hc2 hc3) (fun v u t H1 locs1 ht hvm hw hB hz hk hS1 => by
    subst hw
    rw [ht] at hB
    exact kk v rfl h H1 locs1 ls hS1 hB hl)
theorem r_callHl1 (X : Cx G A p s m args meth c own cc nL) (Y : CxH G A l s) {o : Oid} {y : MethodName} {cb : ByteArray} {n idx d k1 : Nat} {v1 : Value} {r1 : Int64 ⊕ Nat} {M1 : Mem} {σ : Type} {kf : Int64 → Mem → Option (σ × Mem)} {ke : Nat → Mem → Option (σ × Mem)} {r : σ × Mem} (ho : okO G.2.2.2.2 o) (hC : (gcl[o.1]?).map (fun q => q.1) = some y.cls) (vy : VY y) (my : MY y cb n (some .long) 1) (ml : Cond.methodLink own idx y ∈ gtb) (hR : d + 1 ≤ R.frames ∧ 8 + (n + 11) + 36 * d ≤ R.locals ∧ ce + k1 ≤ R.cells ∧ sl + 6 * k1 ≤ R.slots)
    (hM : ∀ sz, vx_Met l y (wsO y cb n (some .long)) (rmX d k1) (PcX G sz (.ref (G.2.1 o) :: [v1]) M) (QlX G (AX G sz) r1 M1) (XX G (AX G sz) r1 M1) k1 (6 * k1) (AX G sz)) (h : catchX (some (r1, M1)) kf ke = some r) (hcat : (st.map fun v => v.category).sum ≤ 8) (d : decode cc pc = .ok (.invokevirtual idx, 3))
    (kk : ∀ v : Int64, r1 = .inl v → kf v M1 = some r → T G A p l e R s m args below meth c nL (ce + k1) (sl + 6 * k1) Q (pc + 3) lo (.long v :: st) M1)
    (kx : ∀ k9 q9 : Nat, k9 < 4 → ke k9 M1 = some r → TX G A p l e R s m args below meth c nL (ce + k1) (sl + 6 * k1) Q pc lo st (exn k9) q9 M1) : T G A p l e R s m args below meth c nL ce sl Q pc lo (v1 :: .ref (G.2.1 o) :: st) M := by
  intro H locs ls hS hP hl
  exact vx_calll (vx_runV (As := [v1]) (rest := st) ⟨X.1, X.2.1, X.2.2.1, X.2.2.2.1, X.2.2.2.2.1⟩ (hM H.size) ⟨callB_tblX X my ml ⟨hR.1, hR.2.1⟩, X.2.2.2.2.1 _ vy.1, X.2.2.2.2.1 _ vy.2⟩ ⟨PcX_blind, recv_at X hP ho hC, PcX_atH X Y hS hP⟩ rfl rfl hl.1 rfl (lv_room hcat) d ⟨hR.2.2.1, hR.2.2.2⟩) hS (fun q _ h => AX_subH X Y hS q h) (fun q h => AX_subH X Y hS q h) (fun q _ h => AX_subH X Y hS q h) (fun E cx q9 k9 t H1 locs1 ht hvm hw hB hz hk hS1 hc1 hc2 hc3 => by
    obtain ⟨hw, hk4⟩ := hw
    obtain ⟨hE, hB⟩ := hB
    subst hw
    subst hE
    rw [ht] at hB
    exact kx k9 q9 hk4 h H1 locs1 ls cx hS1 hB hl hc1 hc2 hc3) (fun v u t H1 locs1 ht hvm hw hB hz hk hS1 => by
    subst hw
    rw [ht] at hB
    exact kk v rfl h H1 locs1 ls hS1 hB hl)
theorem r_callHl2 (X : Cx G A p s m args meth c own cc nL) (Y : CxH G A l s) {o : Oid} {y : MethodName} {cb : ByteArray} {n idx d k1 : Nat} {v1 v2 : Value} {r1 : Int64 ⊕ Nat} {M1 : Mem} {σ : Type} {kf : Int64 → Mem → Option (σ × Mem)} {ke : Nat → Mem → Option (σ × Mem)} {r : σ × Mem} (ho : okO G.2.2.2.2 o) (hC : (gcl[o.1]?).map (fun q => q.1) = some y.cls) (vy : VY y) (my : MY y cb n (some .long) 2) (ml : Cond.methodLink own idx y ∈ gtb) (hR : d + 1 ≤ R.frames ∧ 8 + (n + 11) + 36 * d ≤ R.locals ∧ ce + k1 ≤ R.cells ∧ sl + 6 * k1 ≤ R.slots)
    (hM : ∀ sz, vx_Met l y (wsO y cb n (some .long)) (rmX d k1) (PcX G sz (.ref (G.2.1 o) :: [v1, v2]) M) (QlX G (AX G sz) r1 M1) (XX G (AX G sz) r1 M1) k1 (6 * k1) (AX G sz)) (h : catchX (some (r1, M1)) kf ke = some r) (hcat : (st.map fun v => v.category).sum ≤ 8) (d : decode cc pc = .ok (.invokevirtual idx, 3))
    (kk : ∀ v : Int64, r1 = .inl v → kf v M1 = some r → T G A p l e R s m args below meth c nL (ce + k1) (sl + 6 * k1) Q (pc + 3) lo (.long v :: st) M1)
    (kx : ∀ k9 q9 : Nat, k9 < 4 → ke k9 M1 = some r → TX G A p l e R s m args below meth c nL (ce + k1) (sl + 6 * k1) Q pc lo st (exn k9) q9 M1) : T G A p l e R s m args below meth c nL ce sl Q pc lo (v2 :: v1 :: .ref (G.2.1 o) :: st) M := by
  intro H locs ls hS hP hl
  exact vx_calll (vx_runV (As := [v1, v2]) (rest := st) ⟨X.1, X.2.1, X.2.2.1, X.2.2.2.1, X.2.2.2.2.1⟩ (hM H.size) ⟨callB_tblX X my ml ⟨hR.1, hR.2.1⟩, X.2.2.2.2.1 _ vy.1, X.2.2.2.2.1 _ vy.2⟩ ⟨PcX_blind, recv_at X hP ho hC, PcX_atH X Y hS hP⟩ rfl rfl hl.1 rfl (lv_room hcat) d ⟨hR.2.2.1, hR.2.2.2⟩) hS (fun q _ h => AX_subH X Y hS q h) (fun q h => AX_subH X Y hS q h) (fun q _ h => AX_subH X Y hS q h) (fun E cx q9 k9 t H1 locs1 ht hvm hw hB hz hk hS1 hc1 hc2 hc3 => by
    obtain ⟨hw, hk4⟩ := hw
    obtain ⟨hE, hB⟩ := hB
    subst hw
    subst hE
    rw [ht] at hB
    exact kx k9 q9 hk4 h H1 locs1 ls cx hS1 hB hl hc1 hc2 hc3) (fun v u t H1 locs1 ht hvm hw hB hz hk hS1 => by
    subst hw
    rw [ht] at hB
    exact kk v rfl h H1 locs1 ls hS1 hB hl)
theorem r_callHl3 (X : Cx G A p s m args meth c own cc nL) (Y : CxH G A l s) {o : Oid} {y : MethodName} {cb : ByteArray} {n idx d k1 : Nat} {v1 v2 v3 : Value} {r1 : Int64 ⊕ Nat} {M1 : Mem} {σ : Type} {kf : Int64 → Mem → Option (σ × Mem)} {ke : Nat → Mem → Option (σ × Mem)} {r : σ × Mem} (ho : okO G.2.2.2.2 o) (hC : (gcl[o.1]?).map (fun q => q.1) = some y.cls) (vy : VY y) (my : MY y cb n (some .long) 3) (ml : Cond.methodLink own idx y ∈ gtb) (hR : d + 1 ≤ R.frames ∧ 8 + (n + 11) + 36 * d ≤ R.locals ∧ ce + k1 ≤ R.cells ∧ sl + 6 * k1 ≤ R.slots)
    (hM : ∀ sz, vx_Met l y (wsO y cb n (some .long)) (rmX d k1) (PcX G sz (.ref (G.2.1 o) :: [v1, v2, v3]) M) (QlX G (AX G sz) r1 M1) (XX G (AX G sz) r1 M1) k1 (6 * k1) (AX G sz)) (h : catchX (some (r1, M1)) kf ke = some r) (hcat : (st.map fun v => v.category).sum ≤ 8) (d : decode cc pc = .ok (.invokevirtual idx, 3))
    (kk : ∀ v : Int64, r1 = .inl v → kf v M1 = some r → T G A p l e R s m args below meth c nL (ce + k1) (sl + 6 * k1) Q (pc + 3) lo (.long v :: st) M1)
    (kx : ∀ k9 q9 : Nat, k9 < 4 → ke k9 M1 = some r → TX G A p l e R s m args below meth c nL (ce + k1) (sl + 6 * k1) Q pc lo st (exn k9) q9 M1) : T G A p l e R s m args below meth c nL ce sl Q pc lo (v3 :: v2 :: v1 :: .ref (G.2.1 o) :: st) M := by
  intro H locs ls hS hP hl
  exact vx_calll (vx_runV (As := [v1, v2, v3]) (rest := st) ⟨X.1, X.2.1, X.2.2.1, X.2.2.2.1, X.2.2.2.2.1⟩ (hM H.size) ⟨callB_tblX X my ml ⟨hR.1, hR.2.1⟩, X.2.2.2.2.1 _ vy.1, X.2.2.2.2.1 _ vy.2⟩ ⟨PcX_blind, recv_at X hP ho hC, PcX_atH X Y hS hP⟩ rfl rfl hl.1 rfl (lv_room hcat) d ⟨hR.2.2.1, hR.2.2.2⟩) hS (fun q _ h => AX_subH X Y hS q h) (fun q h => AX_subH X Y hS q h) (fun q _ h => AX_subH X Y hS q h) (fun E cx q9 k9 t H1 locs1 ht hvm hw hB hz hk hS1 hc1 hc2 hc3 => by
    obtain ⟨hw, hk4⟩ := hw
    obtain ⟨hE, hB⟩ := hB
    subst hw
    subst hE
    rw [ht] at hB
    exact kx k9 q9 hk4 h H1 locs1 ls cx hS1 hB hl hc1 hc2 hc3) (fun v u t H1 locs1 ht hvm hw hB hz hk hS1 => by
    subst hw
    rw [ht] at hB
    exact kk v rfl h H1 locs1 ls hS1 hB hl)
theorem r_callHl4 (X : Cx G A p s m args meth c own cc nL) (Y : CxH G A l s) {o : Oid} {y : MethodName} {cb : ByteArray} {n idx d k1 : Nat} {v1 v2 v3 v4 : Value} {r1 : Int64 ⊕ Nat} {M1 : Mem} {σ : Type} {kf : Int64 → Mem → Option (σ × Mem)} {ke : Nat → Mem → Option (σ × Mem)} {r : σ × Mem} (ho : okO G.2.2.2.2 o) (hC : (gcl[o.1]?).map (fun q => q.1) = some y.cls) (vy : VY y) (my : MY y cb n (some .long) 4) (ml : Cond.methodLink own idx y ∈ gtb) (hR : d + 1 ≤ R.frames ∧ 8 + (n + 11) + 36 * d ≤ R.locals ∧ ce + k1 ≤ R.cells ∧ sl + 6 * k1 ≤ R.slots)
    (hM : ∀ sz, vx_Met l y (wsO y cb n (some .long)) (rmX d k1) (PcX G sz (.ref (G.2.1 o) :: [v1, v2, v3, v4]) M) (QlX G (AX G sz) r1 M1) (XX G (AX G sz) r1 M1) k1 (6 * k1) (AX G sz)) (h : catchX (some (r1, M1)) kf ke = some r) (hcat : (st.map fun v => v.category).sum ≤ 8) (d : decode cc pc = .ok (.invokevirtual idx, 3))
    (kk : ∀ v : Int64, r1 = .inl v → kf v M1 = some r → T G A p l e R s m args below meth c nL (ce + k1) (sl + 6 * k1) Q (pc + 3) lo (.long v :: st) M1)
    (kx : ∀ k9 q9 : Nat, k9 < 4 → ke k9 M1 = some r → TX G A p l e R s m args below meth c nL (ce + k1) (sl + 6 * k1) Q pc lo st (exn k9) q9 M1) : T G A p l e R s m args below meth c nL ce sl Q pc lo (v4 :: v3 :: v2 :: v1 :: .ref (G.2.1 o) :: st) M := by
  intro H locs ls hS hP hl
  exact vx_calll (vx_runV (As := [v1, v2, v3, v4]) (rest := st) ⟨X.1, X.2.1, X.2.2.1, X.2.2.2.1, X.2.2.2.2.1⟩ (hM H.size) ⟨callB_tblX X my ml ⟨hR.1, hR.2.1⟩, X.2.2.2.2.1 _ vy.1, X.2.2.2.2.1 _ vy.2⟩ ⟨PcX_blind, recv_at X hP ho hC, PcX_atH X Y hS hP⟩ rfl rfl hl.1 rfl (lv_room hcat) d ⟨hR.2.2.1, hR.2.2.2⟩) hS (fun q _ h => AX_subH X Y hS q h) (fun q h => AX_subH X Y hS q h) (fun q _ h => AX_subH X Y hS q h) (fun E cx q9 k9 t H1 locs1 ht hvm hw hB hz hk hS1 hc1 hc2 hc3 => by
    obtain ⟨hw, hk4⟩ := hw
    obtain ⟨hE, hB⟩ := hB
    subst hw
    subst hE
    rw [ht] at hB
    exact kx k9 q9 hk4 h H1 locs1 ls cx hS1 hB hl hc1 hc2 hc3) (fun v u t H1 locs1 ht hvm hw hB hz hk hS1 => by
    subst hw
    rw [ht] at hB
    exact kk v rfl h H1 locs1 ls hS1 hB hl)
theorem r_callHl5 (X : Cx G A p s m args meth c own cc nL) (Y : CxH G A l s) {o : Oid} {y : MethodName} {cb : ByteArray} {n idx d k1 : Nat} {v1 v2 v3 v4 v5 : Value} {r1 : Int64 ⊕ Nat} {M1 : Mem} {σ : Type} {kf : Int64 → Mem → Option (σ × Mem)} {ke : Nat → Mem → Option (σ × Mem)} {r : σ × Mem} (ho : okO G.2.2.2.2 o) (hC : (gcl[o.1]?).map (fun q => q.1) = some y.cls) (vy : VY y) (my : MY y cb n (some .long) 5) (ml : Cond.methodLink own idx y ∈ gtb) (hR : d + 1 ≤ R.frames ∧ 8 + (n + 11) + 36 * d ≤ R.locals ∧ ce + k1 ≤ R.cells ∧ sl + 6 * k1 ≤ R.slots)
    (hM : ∀ sz, vx_Met l y (wsO y cb n (some .long)) (rmX d k1) (PcX G sz (.ref (G.2.1 o) :: [v1, v2, v3, v4, v5]) M) (QlX G (AX G sz) r1 M1) (XX G (AX G sz) r1 M1) k1 (6 * k1) (AX G sz)) (h : catchX (some (r1, M1)) kf ke = some r) (hcat : (st.map fun v => v.category).sum ≤ 8) (d : decode cc pc = .ok (.invokevirtual idx, 3))
    (kk : ∀ v : Int64, r1 = .inl v → kf v M1 = some r → T G A p l e R s m args below meth c nL (ce + k1) (sl + 6 * k1) Q (pc + 3) lo (.long v :: st) M1)
    (kx : ∀ k9 q9 : Nat, k9 < 4 → ke k9 M1 = some r → TX G A p l e R s m args below meth c nL (ce + k1) (sl + 6 * k1) Q pc lo st (exn k9) q9 M1) : T G A p l e R s m args below meth c nL ce sl Q pc lo (v5 :: v4 :: v3 :: v2 :: v1 :: .ref (G.2.1 o) :: st) M := by
  intro H locs ls hS hP hl
  exact vx_calll (vx_runV (As := [v1, v2, v3, v4, v5]) (rest := st) ⟨X.1, X.2.1, X.2.2.1, X.2.2.2.1, X.2.2.2.2.1⟩ (hM H.size) ⟨callB_tblX X my ml ⟨hR.1, hR.2.1⟩, X.2.2.2.2.1 _ vy.1, X.2.2.2.2.1 _ vy.2⟩ ⟨PcX_blind, recv_at X hP ho hC, PcX_atH X Y hS hP⟩ rfl rfl hl.1 rfl (lv_room hcat) d ⟨hR.2.2.1, hR.2.2.2⟩) hS (fun q _ h => AX_subH X Y hS q h) (fun q h => AX_subH X Y hS q h) (fun q _ h => AX_subH X Y hS q h) (fun E cx q9 k9 t H1 locs1 ht hvm hw hB hz hk hS1 hc1 hc2 hc3 => by
    obtain ⟨hw, hk4⟩ := hw
    obtain ⟨hE, hB⟩ := hB
    subst hw
    subst hE
    rw [ht] at hB
    exact kx k9 q9 hk4 h H1 locs1 ls cx hS1 hB hl hc1 hc2 hc3) (fun v u t H1 locs1 ht hvm hw hB hz hk hS1 => by
    subst hw
    rw [ht] at hB
    exact kk v rfl h H1 locs1 ls hS1 hB hl)
theorem r_callHd0 (X : Cx G A p s m args meth c own cc nL) (Y : CxH G A l s) {o : Oid} {y : MethodName} {cb : ByteArray} {n idx d k1 : Nat} {r1 : UInt64 ⊕ Nat} {M1 : Mem} {σ : Type} {kf : UInt64 → Mem → Option (σ × Mem)} {ke : Nat → Mem → Option (σ × Mem)} {r : σ × Mem} (ho : okO G.2.2.2.2 o) (hC : (gcl[o.1]?).map (fun q => q.1) = some y.cls) (vy : VY y) (my : MY y cb n (some .double) 0) (ml : Cond.methodLink own idx y ∈ gtb) (hR : d + 1 ≤ R.frames ∧ 8 + (n + 11) + 36 * d ≤ R.locals ∧ ce + k1 ≤ R.cells ∧ sl + 6 * k1 ≤ R.slots)
    (hM : ∀ sz, vx_Met l y (wsO y cb n (some .double)) (rmX d k1) (PcX G sz (.ref (G.2.1 o) :: []) M) (QdX G (AX G sz) r1 M1) (XX G (AX G sz) r1 M1) k1 (6 * k1) (AX G sz)) (h : catchX (some (r1, M1)) kf ke = some r) (hcat : (st.map fun v => v.category).sum ≤ 8) (d : decode cc pc = .ok (.invokevirtual idx, 3))
    (kk : ∀ v : UInt64, r1 = .inl v → kf v M1 = some r → T G A p l e R s m args below meth c nL (ce + k1) (sl + 6 * k1) Q (pc + 3) lo (.double v :: st) M1)
    (kx : ∀ k9 q9 : Nat, k9 < 4 → ke k9 M1 = some r → TX G A p l e R s m args below meth c nL (ce + k1) (sl + 6 * k1) Q pc lo st (exn k9) q9 M1) : T G A p l e R s m args below meth c nL ce sl Q pc lo (.ref (G.2.1 o) :: st) M := by
  intro H locs ls hS hP hl
  exact vx_calld (vx_runV (As := []) (rest := st) ⟨X.1, X.2.1, X.2.2.1, X.2.2.2.1, X.2.2.2.2.1⟩ (hM H.size) ⟨callB_tblX X my ml ⟨hR.1, hR.2.1⟩, X.2.2.2.2.1 _ vy.1, X.2.2.2.2.1 _ vy.2⟩ ⟨PcX_blind, recv_at X hP ho hC, PcX_atH X Y hS hP⟩ rfl rfl hl.1 rfl (lv_room hcat) d ⟨hR.2.2.1, hR.2.2.2⟩) hS (fun q _ h => AX_subH X Y hS q h) (fun q h => AX_subH X Y hS q h) (fun q _ h => AX_subH X Y hS q h) (fun E cx q9 k9 t H1 locs1 ht hvm hw hB hz hk hS1 hc1 hc2 hc3 => by
    obtain ⟨hw, hk4⟩ := hw
    obtain ⟨hE, hB⟩ := hB
    subst hw
    subst hE
    rw [ht] at hB
    exact kx k9 q9 hk4 h H1 locs1 ls cx hS1 hB hl hc1 hc2 hc3) (fun v u t H1 locs1 ht hvm hw hB hz hk hS1 => by
    subst hw
    rw [ht] at hB
    exact kk v rfl h H1 locs1 ls hS1 hB hl)
theorem r_callHd1 (X : Cx G A p s m args meth c own cc nL) (Y : CxH G A l s) {o : Oid} {y : MethodName} {cb : ByteArray} {n idx d k1 : Nat} {v1 : Value} {r1 : UInt64 ⊕ Nat} {M1 : Mem} {σ : Type} {kf : UInt64 → Mem → Option (σ × Mem)} {ke : Nat → Mem → Option (σ × Mem)} {r : σ × Mem} (ho : okO G.2.2.2.2 o) (hC : (gcl[o.1]?).map (fun q => q.1) = some y.cls) (vy : VY y) (my : MY y cb n (some .double) 1) (ml : Cond.methodLink own idx y ∈ gtb) (hR : d + 1 ≤ R.frames ∧ 8 + (n + 11) + 36 * d ≤ R.locals ∧ ce + k1 ≤ R.cells ∧ sl + 6 * k1 ≤ R.slots)
    (hM : ∀ sz, vx_Met l y (wsO y cb n (some .double)) (rmX d k1) (PcX G sz (.ref (G.2.1 o) :: [v1]) M) (QdX G (AX G sz) r1 M1) (XX G (AX G sz) r1 M1) k1 (6 * k1) (AX G sz)) (h : catchX (some (r1, M1)) kf ke = some r) (hcat : (st.map fun v => v.category).sum ≤ 8) (d : decode cc pc = .ok (.invokevirtual idx, 3))
    (kk : ∀ v : UInt64, r1 = .inl v → kf v M1 = some r → T G A p l e R s m args below meth c nL (ce + k1) (sl + 6 * k1) Q (pc + 3) lo (.double v :: st) M1)
    (kx : ∀ k9 q9 : Nat, k9 < 4 → ke k9 M1 = some r → TX G A p l e R s m args below meth c nL (ce + k1) (sl + 6 * k1) Q pc lo st (exn k9) q9 M1) : T G A p l e R s m args below meth c nL ce sl Q pc lo (v1 :: .ref (G.2.1 o) :: st) M := by
  intro H locs ls hS hP hl
  exact vx_calld (vx_runV (As := [v1]) (rest := st) ⟨X.1, X.2.1, X.2.2.1, X.2.2.2.1, X.2.2.2.2.1⟩ (hM H.size) ⟨callB_tblX X my ml ⟨hR.1, hR.2.1⟩, X.2.2.2.2.1 _ vy.1, X.2.2.2.2.1 _ vy.2⟩ ⟨PcX_blind, recv_at X hP ho hC, PcX_atH X Y hS hP⟩ rfl rfl hl.1 rfl (lv_room hcat) d ⟨hR.2.2.1, hR.2.2.2⟩) hS (fun q _ h => AX_subH X Y hS q h) (fun q h => AX_subH X Y hS q h) (fun q _ h => AX_subH X Y hS q h) (fun E cx q9 k9 t H1 locs1 ht hvm hw hB hz hk hS1 hc1 hc2 hc3 => by
    obtain ⟨hw, hk4⟩ := hw
    obtain ⟨hE, hB⟩ := hB
    subst hw
    subst hE
    rw [ht] at hB
    exact kx k9 q9 hk4 h H1 locs1 ls cx hS1 hB hl hc1 hc2 hc3) (fun v u t H1 locs1 ht hvm hw hB hz hk hS1 => by
    subst hw
    rw [ht] at hB
    exact kk v rfl h H1 locs1 ls hS1 hB hl)
theorem r_callHd2 (X : Cx G A p s m args meth c own cc nL) (Y : CxH G A l s) {o : Oid} {y : MethodName} {cb : ByteArray} {n idx d k1 : Nat} {v1 v2 : Value} {r1 : UInt64 ⊕ Nat} {M1 : Mem} {σ : Type} {kf : UInt64 → Mem → Option (σ × Mem)} {ke : Nat → Mem → Option (σ × Mem)} {r : σ × Mem} (ho : okO G.2.2.2.2 o) (hC : (gcl[o.1]?).map (fun q => q.1) = some y.cls) (vy : VY y) (my : MY y cb n (some .double) 2) (ml : Cond.methodLink own idx y ∈ gtb) (hR : d + 1 ≤ R.frames ∧ 8 + (n + 11) + 36 * d ≤ R.locals ∧ ce + k1 ≤ R.cells ∧ sl + 6 * k1 ≤ R.slots)
    (hM : ∀ sz, vx_Met l y (wsO y cb n (some .double)) (rmX d k1) (PcX G sz (.ref (G.2.1 o) :: [v1, v2]) M) (QdX G (AX G sz) r1 M1) (XX G (AX G sz) r1 M1) k1 (6 * k1) (AX G sz)) (h : catchX (some (r1, M1)) kf ke = some r) (hcat : (st.map fun v => v.category).sum ≤ 8) (d : decode cc pc = .ok (.invokevirtual idx, 3))
    (kk : ∀ v : UInt64, r1 = .inl v → kf v M1 = some r → T G A p l e R s m args below meth c nL (ce + k1) (sl + 6 * k1) Q (pc + 3) lo (.double v :: st) M1)
    (kx : ∀ k9 q9 : Nat, k9 < 4 → ke k9 M1 = some r → TX G A p l e R s m args below meth c nL (ce + k1) (sl + 6 * k1) Q pc lo st (exn k9) q9 M1) : T G A p l e R s m args below meth c nL ce sl Q pc lo (v2 :: v1 :: .ref (G.2.1 o) :: st) M := by
  intro H locs ls hS hP hl
  exact vx_calld (vx_runV (As := [v1, v2]) (rest := st) ⟨X.1, X.2.1, X.2.2.1, X.2.2.2.1, X.2.2.2.2.1⟩ (hM H.size) ⟨callB_tblX X my ml ⟨hR.1, hR.2.1⟩, X.2.2.2.2.1 _ vy.1, X.2.2.2.2.1 _ vy.2⟩ ⟨PcX_blind, recv_at X hP ho hC, PcX_atH X Y hS hP⟩ rfl rfl hl.1 rfl (lv_room hcat) d ⟨hR.2.2.1, hR.2.2.2⟩) hS (fun q _ h => AX_subH X Y hS q h) (fun q h => AX_subH X Y hS q h) (fun q _ h => AX_subH X Y hS q h) (fun E cx q9 k9 t H1 locs1 ht hvm hw hB hz hk hS1 hc1 hc2 hc3 => by
    obtain ⟨hw, hk4⟩ := hw
    obtain ⟨hE, hB⟩ := hB
    subst hw
    subst hE
    rw [ht] at hB
    exact kx k9 q9 hk4 h H1 locs1 ls cx hS1 hB hl hc1 hc2 hc3) (fun v u t H1 locs1 ht hvm hw hB hz hk hS1 => by
    subst hw
    rw [ht] at hB
    exact kk v rfl h H1 locs1 ls hS1 hB hl)
theorem r_callHd3 (X : Cx G A p s m args meth c own cc nL) (Y : CxH G A l s) {o : Oid} {y : MethodName} {cb : ByteArray} {n idx d k1 : Nat} {v1 v2 v3 : Value} {r1 : UInt64 ⊕ Nat} {M1 : Mem} {σ : Type} {kf : UInt64 → Mem → Option (σ × Mem)} {ke : Nat → Mem → Option (σ × Mem)} {r : σ × Mem} (ho : okO G.2.2.2.2 o) (hC : (gcl[o.1]?).map (fun q => q.1) = some y.cls) (vy : VY y) (my : MY y cb n (some .double) 3) (ml : Cond.methodLink own idx y ∈ gtb) (hR : d + 1 ≤ R.frames ∧ 8 + (n + 11) + 36 * d ≤ R.locals ∧ ce + k1 ≤ R.cells ∧ sl + 6 * k1 ≤ R.slots)
    (hM : ∀ sz, vx_Met l y (wsO y cb n (some .double)) (rmX d k1) (PcX G sz (.ref (G.2.1 o) :: [v1, v2, v3]) M) (QdX G (AX G sz) r1 M1) (XX G (AX G sz) r1 M1) k1 (6 * k1) (AX G sz)) (h : catchX (some (r1, M1)) kf ke = some r) (hcat : (st.map fun v => v.category).sum ≤ 8) (d : decode cc pc = .ok (.invokevirtual idx, 3))
    (kk : ∀ v : UInt64, r1 = .inl v → kf v M1 = some r → T G A p l e R s m args below meth c nL (ce + k1) (sl + 6 * k1) Q (pc + 3) lo (.double v :: st) M1)
    (kx : ∀ k9 q9 : Nat, k9 < 4 → ke k9 M1 = some r → TX G A p l e R s m args below meth c nL (ce + k1) (sl + 6 * k1) Q pc lo st (exn k9) q9 M1) : T G A p l e R s m args below meth c nL ce sl Q pc lo (v3 :: v2 :: v1 :: .ref (G.2.1 o) :: st) M := by
  intro H locs ls hS hP hl
  exact vx_calld (vx_runV (As := [v1, v2, v3]) (rest := st) ⟨X.1, X.2.1, X.2.2.1, X.2.2.2.1, X.2.2.2.2.1⟩ (hM H.size) ⟨callB_tblX X my ml ⟨hR.1, hR.2.1⟩, X.2.2.2.2.1 _ vy.1, X.2.2.2.2.1 _ vy.2⟩ ⟨PcX_blind, recv_at X hP ho hC, PcX_atH X Y hS hP⟩ rfl rfl hl.1 rfl (lv_room hcat) d ⟨hR.2.2.1, hR.2.2.2⟩) hS (fun q _ h => AX_subH X Y hS q h) (fun q h => AX_subH X Y hS q h) (fun q _ h => AX_subH X Y hS q h) (fun E cx q9 k9 t H1 locs1 ht hvm hw hB hz hk hS1 hc1 hc2 hc3 => by
    obtain ⟨hw, hk4⟩ := hw
    obtain ⟨hE, hB⟩ := hB
    subst hw
    subst hE
    rw [ht] at hB
    exact kx k9 q9 hk4 h H1 locs1 ls cx hS1 hB hl hc1 hc2 hc3) (fun v u t H1 locs1 ht hvm hw hB hz hk hS1 => by
    subst hw
    rw [ht] at hB
    exact kk v rfl h H1 locs1 ls hS1 hB hl)
theorem r_callHd4 (X : Cx G A p s m args meth c own cc nL) (Y : CxH G A l s) {o : Oid} {y : MethodName} {cb : ByteArray} {n idx d k1 : Nat} {v1 v2 v3 v4 : Value} {r1 : UInt64 ⊕ Nat} {M1 : Mem} {σ : Type} {kf : UInt64 → Mem → Option (σ × Mem)} {ke : Nat → Mem → Option (σ × Mem)} {r : σ × Mem} (ho : okO G.2.2.2.2 o) (hC : (gcl[o.1]?).map (fun q => q.1) = some y.cls) (vy : VY y) (my : MY y cb n (some .double) 4) (ml : Cond.methodLink own idx y ∈ gtb) (hR : d + 1 ≤ R.frames ∧ 8 + (n + 11) + 36 * d ≤ R.locals ∧ ce + k1 ≤ R.cells ∧ sl + 6 * k1 ≤ R.slots)
    (hM : ∀ sz, vx_Met l y (wsO y cb n (some .double)) (rmX d k1) (PcX G sz (.ref (G.2.1 o) :: [v1, v2, v3, v4]) M) (QdX G (AX G sz) r1 M1) (XX G (AX G sz) r1 M1) k1 (6 * k1) (AX G sz)) (h : catchX (some (r1, M1)) kf ke = some r) (hcat : (st.map fun v => v.category).sum ≤ 8) (d : decode cc pc = .ok (.invokevirtual idx, 3))
    (kk : ∀ v : UInt64, r1 = .inl v → kf v M1 = some r → T G A p l e R s m args below meth c nL (ce + k1) (sl + 6 * k1) Q (pc + 3) lo (.double v :: st) M1)
    (kx : ∀ k9 q9 : Nat, k9 < 4 → ke k9 M1 = some r → TX G A p l e R s m args below meth c nL (ce + k1) (sl + 6 * k1) Q pc lo st (exn k9) q9 M1) : T G A p l e R s m args below meth c nL ce sl Q pc lo (v4 :: v3 :: v2 :: v1 :: .ref (G.2.1 o) :: st) M := by
  intro H locs ls hS hP hl
  exact vx_calld (vx_runV (As := [v1, v2, v3, v4]) (rest := st) ⟨X.1, X.2.1, X.2.2.1, X.2.2.2.1, X.2.2.2.2.1⟩ (hM H.size) ⟨callB_tblX X my ml ⟨hR.1, hR.2.1⟩, X.2.2.2.2.1 _ vy.1, X.2.2.2.2.1 _ vy.2⟩ ⟨PcX_blind, recv_at X hP ho hC, PcX_atH X Y hS hP⟩ rfl rfl hl.1 rfl (lv_room hcat) d ⟨hR.2.2.1, hR.2.2.2⟩) hS (fun q _ h => AX_subH X Y hS q h) (fun q h => AX_subH X Y hS q h) (fun q _ h => AX_subH X Y hS q h) (fun E cx q9 k9 t H1 locs1 ht hvm hw hB hz hk hS1 hc1 hc2 hc3 => by
    obtain ⟨hw, hk4⟩ := hw
    obtain ⟨hE, hB⟩ := hB
    subst hw
    subst hE
    rw [ht] at hB
    exact kx k9 q9 hk4 h H1 locs1 ls cx hS1 hB hl hc1 hc2 hc3) (fun v u t H1 locs1 ht hvm hw hB hz hk hS1 => by
    subst hw
    rw [ht] at hB
    exact kk v rfl h H1 locs1 ls hS1 hB hl)
theorem r_callHd5 (X : Cx G A p s m args meth c own cc nL) (Y : CxH G A l s) {o : Oid} {y : MethodName} {cb : ByteArray} {n idx d k1 : Nat} {v1 v2 v3 v4 v5 : Value} {r1 : UInt64 ⊕ Nat} {M1 : Mem} {σ : Type} {kf : UInt64 → Mem → Option (σ × Mem)} {ke : Nat → Mem → Option (σ × Mem)} {r : σ × Mem} (ho : okO G.2.2.2.2 o) (hC : (gcl[o.1]?).map (fun q => q.1) = some y.cls) (vy : VY y) (my : MY y cb n (some .double) 5) (ml : Cond.methodLink own idx y ∈ gtb) (hR : d + 1 ≤ R.frames ∧ 8 + (n + 11) + 36 * d ≤ R.locals ∧ ce + k1 ≤ R.cells ∧ sl + 6 * k1 ≤ R.slots)
    (hM : ∀ sz, vx_Met l y (wsO y cb n (some .double)) (rmX d k1) (PcX G sz (.ref (G.2.1 o) :: [v1, v2, v3, v4, v5]) M) (QdX G (AX G sz) r1 M1) (XX G (AX G sz) r1 M1) k1 (6 * k1) (AX G sz)) (h : catchX (some (r1, M1)) kf ke = some r) (hcat : (st.map fun v => v.category).sum ≤ 8) (d : decode cc pc = .ok (.invokevirtual idx, 3))
    (kk : ∀ v : UInt64, r1 = .inl v → kf v M1 = some r → T G A p l e R s m args below meth c nL (ce + k1) (sl + 6 * k1) Q (pc + 3) lo (.double v :: st) M1)
    (kx : ∀ k9 q9 : Nat, k9 < 4 → ke k9 M1 = some r → TX G A p l e R s m args below meth c nL (ce + k1) (sl + 6 * k1) Q pc lo st (exn k9) q9 M1) : T G A p l e R s m args below meth c nL ce sl Q pc lo (v5 :: v4 :: v3 :: v2 :: v1 :: .ref (G.2.1 o) :: st) M := by
  intro H locs ls hS hP hl
  exact vx_calld (vx_runV (As := [v1, v2, v3, v4, v5]) (rest := st) ⟨X.1, X.2.1, X.2.2.1, X.2.2.2.1, X.2.2.2.2.1⟩ (hM H.size) ⟨callB_tblX X my ml ⟨hR.1, hR.2.1⟩, X.2.2.2.2.1 _ vy.1, X.2.2.2.2.1 _ vy.2⟩ ⟨PcX_blind, recv_at X hP ho hC, PcX_atH X Y hS hP⟩ rfl rfl hl.1 rfl (lv_room hcat) d ⟨hR.2.2.1, hR.2.2.2⟩) hS (fun q _ h => AX_subH X Y hS q h) (fun q h => AX_subH X Y hS q h) (fun q _ h => AX_subH X Y hS q h) (fun E cx q9 k9 t H1 locs1 ht hvm hw hB hz hk hS1 hc1 hc2 hc3 => by
    obtain ⟨hw, hk4⟩ := hw
    obtain ⟨hE, hB⟩ := hB
    subst hw
    subst hE
    rw [ht] at hB
    exact kx k9 q9 hk4 h H1 locs1 ls cx hS1 hB hl hc1 hc2 hc3) (fun v u t H1 locs1 ht hvm hw hB hz hk hS1 => by
    subst hw
    rw [ht] at hB
    exact kk v rfl h H1 locs1 ls hS1 hB hl)
end HROWS
