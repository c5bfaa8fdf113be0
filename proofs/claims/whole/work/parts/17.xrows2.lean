/-! ===== doubles ===== -/
def ddivOK (x y : UInt64) : Bool := decide (FP.ddiv x y &&& 0x7fffffffffffffff ≤ 0x7ff0000000000000)
section XROWS2
variable {G : GG} {A : Nat → Prop} {p : Program} {l : Launch} {e : Env} {R : Room} {s : State} {m : MethodId} {args : Array Value} {below : List Frame} {meth : Method} {c : Code} {nL ce sl mc ms : Nat} {Q : State → Prop} {own : String} {cc : ByteArray}
  {pc : Nat} {lo : List (Nat × Value)} {st : List Value} {M : Mem} {Qc : Array Value → State → Outcome → State → Prop}
theorem r_l2d (X : Cx G A p s m args meth c own cc nL) {x : Int64} (d : decode cc pc = .ok (.l2d, 1)) (k : T G A p l e R s m args below meth c nL ce sl Q (pc + 1) lo (.double (FP.l2d x) :: st) M) : T G A p l e R s m args below meth c nL ce sl Q pc lo (.long x :: st) M :=
  fun H locs ls hS hP hl => lv_l2d X.1 X.2.1 d (k H locs ls hS hP hl)
theorem r_i2d (X : Cx G A p s m args meth c own cc nL) {x : Int32} (d : decode cc pc = .ok (.i2d, 1)) (k : T G A p l e R s m args below meth c nL ce sl Q (pc + 1) lo (.double (FP.i2d x) :: st) M) : T G A p l e R s m args below meth c nL ce sl Q pc lo (.int x :: st) M :=
  fun H locs ls hS hP hl => lv_i2d X.1 X.2.1 d (k H locs ls hS hP hl)
theorem r_ddiv (X : Cx G A p s m args meth c own cc nL) {x y : UInt64} {α : Type} {F : Option α} {r : α} (d : decode cc pc = .ok (.ddiv, 1)) (h : (if ddivOK x y = false then none else F) = some r) (k : F = some r → T G A p l e R s m args below meth c nL ce sl Q (pc + 1) lo (.double (FP.ddiv x y) :: st) M) : T G A p l e R s m args below meth c nL ce sl Q pc lo (.double y :: .double x :: st) M :=
  ck h fun hc h => fun H locs ls hS hP hl => lv_ddiv X.1 X.2.1 d (by
    unfold ddivOK at hc
    unfold vf_n64
    simpa using hc) (k h H locs ls hS hP hl)
theorem r_dconst0 (X : Cx G A p s m args meth c own cc nL) (d : decode cc pc = .ok (.dconst 0, 1)) (k : T G A p l e R s m args below meth c nL ce sl Q (pc + 1) lo (.double 0 :: st) M) : T G A p l e R s m args below meth c nL ce sl Q pc lo st M :=
  fun H locs ls hS hP hl => lv_dconst0 X.1 X.2.1 d (k H locs ls hS hP hl)
def QdO (G : GG) (A : Nat → Prop) (r : UInt64) (M : Mem) : Array Value → State → Outcome → State → Prop := va_Qd (S := Unit) (fun x _ => x = r) (fun _ t => va_P G.1 gcl (wl G M) t.heap) A
theorem r_dret (X : Cx G A p s m args meth c own cc nL) (hr : meth.sig.returnType = some .double) {x : UInt64} (d : decode cc pc = .ok (.dreturn, 1)) : T G A p l e R s m args below meth c nL ce sl (MQ below (QdO G A x M) args s ce sl A) pc lo [.double x] M :=
  fun H locs ls hS hP hl => W.dret X.1 X.2.1 hr (fun t ht hw => ⟨⟨x, (), rfl, rfl, by show va_P G.1 gcl (wl G _) t.heap; rw [ht]; exact hP⟩, hS.F ht⟩) hS.2.2 d X.2.2.2.2.2.1
end XROWS2
