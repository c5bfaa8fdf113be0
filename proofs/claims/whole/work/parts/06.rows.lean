/-! ===== ROWS: one an instruction, over the memory ===== -/
section ROWS
variable {G : GG} {A : Nat → Prop} {p : Program} {l : Launch} {e : Env} {R : Room} {s : State} {m : MethodId} {args : Array Value} {below : List Frame} {meth : Method} {c : Code} {nL ce sl : Nat} {Q : State → Prop} {own : String} {cc : ByteArray}
  {pc : Nat} {lo : List (Nat × Value)} {st : List Value} {M : Mem}
theorem T_sub {lo' : List (Nat × Value)} (k : T G A p l e R s m args below meth c nL ce sl Q pc lo' st M) (h : lsub lo lo') : T G A p l e R s m args below meth c nL ce sl Q pc lo st M :=
  fun H locs ls hS hP hl => k H locs ls hS hP ⟨hl.1, hl.2.1, fun q hq => hl.2.2 q (lsub_in h q hq)⟩
theorem r_iconst (X : Cx G A p s m args meth c own cc nL) {n : Int} {v : Int32} (d : decode cc pc = .ok (.iconst n, 1)) (hv : Int32.ofInt n = v) (k : T G A p l e R s m args below meth c nL ce sl Q (pc + 1) lo (.int v :: st) M) : T G A p l e R s m args below meth c nL ce sl Q pc lo st M :=
  fun H locs ls hS hP hl => lv_iconst X.1 X.2.1 d hv (k H locs ls hS hP hl)
theorem r_bipush (X : Cx G A p s m args meth c own cc nL) {n : Int} {v : Int32} (d : decode cc pc = .ok (.bipush n, 2)) (hv : (Int8.ofInt n).toInt32 = v) (k : T G A p l e R s m args below meth c nL ce sl Q (pc + 2) lo (.int v :: st) M) : T G A p l e R s m args below meth c nL ce sl Q pc lo st M :=
  fun H locs ls hS hP hl => lv_bipush X.1 X.2.1 d hv (k H locs ls hS hP hl)
theorem r_sipush (X : Cx G A p s m args meth c own cc nL) {n : Int} {v : Int32} (d : decode cc pc = .ok (.sipush n, 3)) (hv : (Int16.ofInt n).toInt32 = v) (k : T G A p l e R s m args below meth c nL ce sl Q (pc + 3) lo (.int v :: st) M) : T G A p l e R s m args below meth c nL ce sl Q pc lo st M :=
  fun H locs ls hS hP hl => lv_sipush X.1 X.2.1 d hv (k H locs ls hS hP hl)
theorem r_lconst (X : Cx G A p s m args meth c own cc nL) {n : Fin 2} {v : Int64} (d : decode cc pc = .ok (.lconst n, 1)) (hv : Int64.ofNat (n : Nat) = v) (k : T G A p l e R s m args below meth c nL ce sl Q (pc + 1) lo (.long v :: st) M) : T G A p l e R s m args below meth c nL ce sl Q pc lo st M :=
  fun H locs ls hS hP hl => lv_lconst X.1 X.2.1 d hv (k H locs ls hS hP hl)
theorem r_ldc (X : Cx G A p s m args meth c own cc nL) {index : Nat} {v : Int32} (hw : Cond.constant own index v ∈ gtb) (d : decode cc pc = .ok (.ldc index, 2)) (k : T G A p l e R s m args below meth c nL ce sl Q (pc + 2) lo (.int v :: st) M) : T G A p l e R s m args below meth c nL ce sl Q pc lo st M :=
  fun H locs ls hS hP hl => lv_ldc X.1 X.2.1 X.2.2.2.1 (X.2.2.2.2.1 _ hw) d (k H locs ls hS hP hl)
theorem r_ldcw (X : Cx G A p s m args meth c own cc nL) {index : Nat} {v : Int32} (hw : Cond.constant own index v ∈ gtb) (d : decode cc pc = .ok (.ldc_w index, 3)) (k : T G A p l e R s m args below meth c nL ce sl Q (pc + 3) lo (.int v :: st) M) : T G A p l e R s m args below meth c nL ce sl Q pc lo st M :=
  fun H locs ls hS hP hl => lv_ldcw X.1 X.2.1 X.2.2.2.1 (X.2.2.2.2.1 _ hw) d (k H locs ls hS hP hl)
theorem r_ldc2 (X : Cx G A p s m args meth c own cc nL) {index : Nat} {v : Int64} (hw : Cond.constantLong own index v ∈ gtb) (d : decode cc pc = .ok (.ldc2_w index, 3)) (k : T G A p l e R s m args below meth c nL ce sl Q (pc + 3) lo (.long v :: st) M) : T G A p l e R s m args below meth c nL ce sl Q pc lo st M :=
  fun H locs ls hS hP hl => lv_ldc2 X.1 X.2.1 X.2.2.2.1 (X.2.2.2.2.1 _ hw) d (k H locs ls hS hP hl)
theorem r_iload_n (X : Cx G A p s m args meth c own cc nL) {i : Fin 4} {x : Int32} (d : decode cc pc = .ok (.iload_n i, 1)) (hl : lk lo i = some (.int x)) (k : T G A p l e R s m args below meth c nL ce sl Q (pc + 1) lo (.int x :: st) M) : T G A p l e R s m args below meth c nL ce sl Q pc lo st M :=
  fun H locs ls hS hP hh => lv_iload_n X.1 X.2.1 d rfl (lk_at hh hl) (k H locs ls hS hP hh)
theorem r_iload (X : Cx G A p s m args meth c own cc nL) {i : Nat} {x : Int32} (d : decode cc pc = .ok (.iload i, 2)) (hl : lk lo i = some (.int x)) (k : T G A p l e R s m args below meth c nL ce sl Q (pc + 2) lo (.int x :: st) M) : T G A p l e R s m args below meth c nL ce sl Q pc lo st M :=
  fun H locs ls hS hP hh => lv_iload X.1 X.2.1 d (lk_at hh hl) (k H locs ls hS hP hh)
theorem r_lload_n (X : Cx G A p s m args meth c own cc nL) {i : Fin 4} {x : Int64} (d : decode cc pc = .ok (.lload_n i, 1)) (hl : lk lo i = some (.long x)) (k : T G A p l e R s m args below meth c nL ce sl Q (pc + 1) lo (.long x :: st) M) : T G A p l e R s m args below meth c nL ce sl Q pc lo st M :=
  fun H locs ls hS hP hh => lv_lload_n X.1 X.2.1 d rfl (lk_at hh hl) (k H locs ls hS hP hh)
theorem r_lload (X : Cx G A p s m args meth c own cc nL) {i : Nat} {x : Int64} (d : decode cc pc = .ok (.lload i, 2)) (hl : lk lo i = some (.long x)) (k : T G A p l e R s m args below meth c nL ce sl Q (pc + 2) lo (.long x :: st) M) : T G A p l e R s m args below meth c nL ce sl Q pc lo st M :=
  fun H locs ls hS hP hh => lv_lload X.1 X.2.1 d (lk_at hh hl) (k H locs ls hS hP hh)
theorem r_aload_n (X : Cx G A p s m args meth c own cc nL) {i : Fin 4} {x : Nat} (d : decode cc pc = .ok (.aload_n i, 1)) (hl : lk lo i = some (.ref x)) (k : T G A p l e R s m args below meth c nL ce sl Q (pc + 1) lo (.ref x :: st) M) : T G A p l e R s m args below meth c nL ce sl Q pc lo st M :=
  fun H locs ls hS hP hh => lv_aload_n X.1 X.2.1 d rfl (lk_at hh hl) (k H locs ls hS hP hh)
theorem r_aload (X : Cx G A p s m args meth c own cc nL) {i x : Nat} (d : decode cc pc = .ok (.aload i, 2)) (hl : lk lo i = some (.ref x)) (k : T G A p l e R s m args below meth c nL ce sl Q (pc + 2) lo (.ref x :: st) M) : T G A p l e R s m args below meth c nL ce sl Q pc lo st M :=
  fun H locs ls hS hP hh => lv_aload X.1 X.2.1 d (lk_at hh hl) (k H locs ls hS hP hh)
theorem r_istore_n (X : Cx G A p s m args meth c own cc nL) {i : Fin 4} {x : Int32} (hn : (i : Nat) < nL) (d : decode cc pc = .ok (.istore_n i, 1)) (k : T G A p l e R s m args below meth c nL ce sl Q (pc + 1) (lset i (.int x) lo) st M) : T G A p l e R s m args below meth c nL ce sl Q pc lo (.int x :: st) M :=
  fun H locs ls hS hP hh => lv_istore_n X.1 X.2.1 d rfl hh hn rfl (fun ls' h' => k H locs ls' hS hP h')
theorem r_istore (X : Cx G A p s m args meth c own cc nL) {i : Nat} {x : Int32} (hn : i < nL) (d : decode cc pc = .ok (.istore i, 2)) (k : T G A p l e R s m args below meth c nL ce sl Q (pc + 2) (lset i (.int x) lo) st M) : T G A p l e R s m args below meth c nL ce sl Q pc lo (.int x :: st) M :=
  fun H locs ls hS hP hh => lv_istore X.1 X.2.1 d hh hn rfl (fun ls' h' => k H locs ls' hS hP h')
theorem r_astore_n (X : Cx G A p s m args meth c own cc nL) {i : Fin 4} {x : Nat} (hn : (i : Nat) < nL) (d : decode cc pc = .ok (.astore_n i, 1)) (k : T G A p l e R s m args below meth c nL ce sl Q (pc + 1) (lset i (.ref x) lo) st M) : T G A p l e R s m args below meth c nL ce sl Q pc lo (.ref x :: st) M :=
  fun H locs ls hS hP hh => lv_astore_n X.1 X.2.1 d rfl hh hn rfl (fun ls' h' => k H locs ls' hS hP h')
theorem r_astore (X : Cx G A p s m args meth c own cc nL) {i x : Nat} (hn : i < nL) (d : decode cc pc = .ok (.astore i, 2)) (k : T G A p l e R s m args below meth c nL ce sl Q (pc + 2) (lset i (.ref x) lo) st M) : T G A p l e R s m args below meth c nL ce sl Q pc lo (.ref x :: st) M :=
  fun H locs ls hS hP hh => lv_astore X.1 X.2.1 d hh hn rfl (fun ls' h' => k H locs ls' hS hP h')
theorem r_lstore_n (X : Cx G A p s m args meth c own cc nL) {i : Fin 4} {x : Int64} (hn : (i : Nat) + 1 < nL) (d : decode cc pc = .ok (.lstore_n i, 1)) (k : T G A p l e R s m args below meth c nL ce sl Q (pc + 1) (lset2 i (.long x) lo) st M) : T G A p l e R s m args below meth c nL ce sl Q pc lo (.long x :: st) M :=
  fun H locs ls hS hP hh => lv_lstore_n X.1 X.2.1 d rfl hh hn rfl (fun ls' h' => k H locs ls' hS hP h')
theorem r_lstore (X : Cx G A p s m args meth c own cc nL) {i : Nat} {x : Int64} (hn : i + 1 < nL) (d : decode cc pc = .ok (.lstore i, 2)) (k : T G A p l e R s m args below meth c nL ce sl Q (pc + 2) (lset2 i (.long x) lo) st M) : T G A p l e R s m args below meth c nL ce sl Q pc lo (.long x :: st) M :=
  fun H locs ls hS hP hh => lv_lstore X.1 X.2.1 d hh hn rfl (fun ls' h' => k H locs ls' hS hP h')
theorem lk_place : ∀ {l : List (Nat × Value)} {i : Nat} {v : Value}, lk l i = some v → ∃ k : Nat, l[k]? = some (i, v) := fun h => List.getElem?_of_mem (lk_in h)
theorem r_iinc (X : Cx G A p s m args meth c own cc nL) {i : Nat} {n : Int} {x v : Int32} (hl : lk lo i = some (.int x)) (hv : x + Int32.ofInt n = v) (hn : i < nL) (d : decode cc pc = .ok (.iinc i n, 3)) (k : T G A p l e R s m args below meth c nL ce sl Q (pc + 3) (lset i (.int v) lo) st M) : T G A p l e R s m args below meth c nL ce sl Q pc lo st M :=
  fun H locs ls hS hP hh => (lk_place hl).elim fun j hj => lv_iinc X.1 X.2.1 d hh hj hv hn rfl (fun ls' h' => k H locs ls' hS hP h')
theorem r_iadd (X : Cx G A p s m args meth c own cc nL) {x y : Int32} (d : decode cc pc = .ok (.iadd, 1)) (k : T G A p l e R s m args below meth c nL ce sl Q (pc + 1) lo (.int (x + y) :: st) M) : T G A p l e R s m args below meth c nL ce sl Q pc lo (.int y :: .int x :: st) M :=
  fun H locs ls hS hP hl => lv_iadd X.1 X.2.1 d (k H locs ls hS hP hl)
theorem r_isub (X : Cx G A p s m args meth c own cc nL) {x y : Int32} (d : decode cc pc = .ok (.isub, 1)) (k : T G A p l e R s m args below meth c nL ce sl Q (pc + 1) lo (.int (x - y) :: st) M) : T G A p l e R s m args below meth c nL ce sl Q pc lo (.int y :: .int x :: st) M :=
  fun H locs ls hS hP hl => lv_isub X.1 X.2.1 d (k H locs ls hS hP hl)
theorem r_imul (X : Cx G A p s m args meth c own cc nL) {x y : Int32} (d : decode cc pc = .ok (.imul, 1)) (k : T G A p l e R s m args below meth c nL ce sl Q (pc + 1) lo (.int (x * y) :: st) M) : T G A p l e R s m args below meth c nL ce sl Q pc lo (.int y :: .int x :: st) M :=
  fun H locs ls hS hP hl => lv_imul X.1 X.2.1 d (k H locs ls hS hP hl)
theorem r_iand (X : Cx G A p s m args meth c own cc nL) {x y : Int32} (d : decode cc pc = .ok (.iand, 1)) (k : T G A p l e R s m args below meth c nL ce sl Q (pc + 1) lo (.int (x &&& y) :: st) M) : T G A p l e R s m args below meth c nL ce sl Q pc lo (.int y :: .int x :: st) M :=
  fun H locs ls hS hP hl => lv_iand X.1 X.2.1 d (k H locs ls hS hP hl)
theorem r_ior (X : Cx G A p s m args meth c own cc nL) {x y : Int32} (d : decode cc pc = .ok (.ior, 1)) (k : T G A p l e R s m args below meth c nL ce sl Q (pc + 1) lo (.int (x ||| y) :: st) M) : T G A p l e R s m args below meth c nL ce sl Q pc lo (.int y :: .int x :: st) M :=
  fun H locs ls hS hP hl => lv_ior X.1 X.2.1 d (k H locs ls hS hP hl)
theorem r_ishl (X : Cx G A p s m args meth c own cc nL) {x y : Int32} (d : decode cc pc = .ok (.ishl, 1)) (k : T G A p l e R s m args below meth c nL ce sl Q (pc + 1) lo (.int (x <<< (y &&& 31)) :: st) M) : T G A p l e R s m args below meth c nL ce sl Q pc lo (.int y :: .int x :: st) M :=
  fun H locs ls hS hP hl => lv_ishl X.1 X.2.1 d (k H locs ls hS hP hl)
theorem r_ishr (X : Cx G A p s m args meth c own cc nL) {x y : Int32} (d : decode cc pc = .ok (.ishr, 1)) (k : T G A p l e R s m args below meth c nL ce sl Q (pc + 1) lo (.int (x >>> (y &&& 31)) :: st) M) : T G A p l e R s m args below meth c nL ce sl Q pc lo (.int y :: .int x :: st) M :=
  fun H locs ls hS hP hl => lv_ishr X.1 X.2.1 d (k H locs ls hS hP hl)
theorem r_irem (X : Cx G A p s m args meth c own cc nL) {x y : Int32} (hne : ¬ y = 0) (d : decode cc pc = .ok (.irem, 1)) (k : T G A p l e R s m args below meth c nL ce sl Q (pc + 1) lo (.int (x - x / y * y) :: st) M) : T G A p l e R s m args below meth c nL ce sl Q pc lo (.int y :: .int x :: st) M :=
  fun H locs ls hS hP hl => lv_irem X.1 X.2.1 d hne (k H locs ls hS hP hl)
theorem r_ladd (X : Cx G A p s m args meth c own cc nL) {x y : Int64} (d : decode cc pc = .ok (.ladd, 1)) (k : T G A p l e R s m args below meth c nL ce sl Q (pc + 1) lo (.long (x + y) :: st) M) : T G A p l e R s m args below meth c nL ce sl Q pc lo (.long y :: .long x :: st) M :=
  fun H locs ls hS hP hl => lv_ladd X.1 X.2.1 d (k H locs ls hS hP hl)
theorem r_lsub (X : Cx G A p s m args meth c own cc nL) {x y : Int64} (d : decode cc pc = .ok (.lsub, 1)) (k : T G A p l e R s m args below meth c nL ce sl Q (pc + 1) lo (.long (x - y) :: st) M) : T G A p l e R s m args below meth c nL ce sl Q pc lo (.long y :: .long x :: st) M :=
  fun H locs ls hS hP hl => lv_lsub X.1 X.2.1 d (k H locs ls hS hP hl)
theorem r_lmul (X : Cx G A p s m args meth c own cc nL) {x y : Int64} (d : decode cc pc = .ok (.lmul, 1)) (k : T G A p l e R s m args below meth c nL ce sl Q (pc + 1) lo (.long (x * y) :: st) M) : T G A p l e R s m args below meth c nL ce sl Q pc lo (.long y :: .long x :: st) M :=
  fun H locs ls hS hP hl => lv_lmul X.1 X.2.1 d (k H locs ls hS hP hl)
theorem r_ineg (X : Cx G A p s m args meth c own cc nL) {x : Int32} (d : decode cc pc = .ok (.ineg, 1)) (k : T G A p l e R s m args below meth c nL ce sl Q (pc + 1) lo (.int (-x) :: st) M) : T G A p l e R s m args below meth c nL ce sl Q pc lo (.int x :: st) M :=
  fun H locs ls hS hP hl => lv_ineg X.1 X.2.1 d (k H locs ls hS hP hl)
theorem r_i2l (X : Cx G A p s m args meth c own cc nL) {x : Int32} (d : decode cc pc = .ok (.i2l, 1)) (k : T G A p l e R s m args below meth c nL ce sl Q (pc + 1) lo (.long x.toInt64 :: st) M) : T G A p l e R s m args below meth c nL ce sl Q pc lo (.int x :: st) M :=
  fun H locs ls hS hP hl => lv_i2l X.1 X.2.1 d rfl (k H locs ls hS hP hl)
theorem r_i2b (X : Cx G A p s m args meth c own cc nL) {x : Int32} (d : decode cc pc = .ok (.i2b, 1)) (k : T G A p l e R s m args below meth c nL ce sl Q (pc + 1) lo (.int x.toInt8.toInt32 :: st) M) : T G A p l e R s m args below meth c nL ce sl Q pc lo (.int x :: st) M :=
  fun H locs ls hS hP hl => lv_i2b X.1 X.2.1 d rfl (k H locs ls hS hP hl)
theorem r_dup (X : Cx G A p s m args meth c own cc nL) {v : Value} (d : decode cc pc = .ok (.dup, 1)) (hv : v.category = 1) (k : T G A p l e R s m args below meth c nL ce sl Q (pc + 1) lo (v :: v :: st) M) : T G A p l e R s m args below meth c nL ce sl Q pc lo (v :: st) M :=
  fun H locs ls hS hP hl => lv_dup X.1 X.2.1 d hv (k H locs ls hS hP hl)
theorem r_dup2 (X : Cx G A p s m args meth c own cc nL) {v w : Value} (d : decode cc pc = .ok (.dup2, 1)) (hv : v.category = 1) (hw : w.category = 1) (k : T G A p l e R s m args below meth c nL ce sl Q (pc + 1) lo (v :: w :: v :: w :: st) M) : T G A p l e R s m args below meth c nL ce sl Q pc lo (v :: w :: st) M :=
  fun H locs ls hS hP hl => lv_dup2_11 X.1 X.2.1 d hv hw (k H locs ls hS hP hl)
theorem r_pop (X : Cx G A p s m args meth c own cc nL) {v : Value} (d : decode cc pc = .ok (.pop, 1)) (hv : v.category = 1) (k : T G A p l e R s m args below meth c nL ce sl Q (pc + 1) lo st M) : T G A p l e R s m args below meth c nL ce sl Q pc lo (v :: st) M :=
  fun H locs ls hS hP hl => lv_pop X.1 X.2.1 d hv (k H locs ls hS hP hl)
theorem r_goto (X : Cx G A p s m args meth c own cc nL) {off : Int} {tgt : Nat} (d : decode cc pc = .ok (.goto off, 3)) (ht : (pc : Int) + off = (tgt : Int)) (k : T G A p l e R s m args below meth c nL ce sl Q tgt lo st M) : T G A p l e R s m args below meth c nL ce sl Q pc lo st M :=
  fun H locs ls hS hP hl => lv_goto X.1 X.2.1 d ht (k H locs ls hS hP hl)
theorem r_if_eq (X : Cx G A p s m args meth c own cc nL) {x : Int32} {off : Int} {tgt : Nat} {α : Type} {F1 F2 : Option α} {o : α} (d : decode cc pc = .ok (.ifCond .eq off, 3)) (ht : (pc : Int) + off = (tgt : Int)) (h : (if x = 0 then F1 else F2) = some o) (kt : F1 = some o → T G A p l e R s m args below meth c nL ce sl Q tgt lo st M) (kf : F2 = some o → T G A p l e R s m args below meth c nL ce sl Q (pc + 3) lo st M) : T G A p l e R s m args below meth c nL ce sl Q pc lo (.int x :: st) M :=
  fun H locs ls hS hP hl => lv_if_eq X.1 X.2.1 d ht (fun hc => kt (by rw [if_pos hc] at h; exact h) H locs ls hS hP hl) (fun hc => kf (by rw [if_neg hc] at h; exact h) H locs ls hS hP hl)
theorem r_icmp_eq (X : Cx G A p s m args meth c own cc nL) {x y : Int32} {off : Int} {tgt : Nat} {α : Type} {F1 F2 : Option α} {o : α} (d : decode cc pc = .ok (.if_icmp .eq off, 3)) (ht : (pc : Int) + off = (tgt : Int)) (h : (if x = y then F1 else F2) = some o) (kt : F1 = some o → T G A p l e R s m args below meth c nL ce sl Q tgt lo st M) (kf : F2 = some o → T G A p l e R s m args below meth c nL ce sl Q (pc + 3) lo st M) : T G A p l e R s m args below meth c nL ce sl Q pc lo (.int y :: .int x :: st) M :=
  fun H locs ls hS hP hl => lv_icmp_eq X.1 X.2.1 d ht (fun hc => kt (by rw [if_pos hc] at h; exact h) H locs ls hS hP hl) (fun hc => kf (by rw [if_neg hc] at h; exact h) H locs ls hS hP hl)
theorem r_if_ne (X : Cx G A p s m args meth c own cc nL) {x : Int32} {off : Int} {tgt : Nat} {α : Type} {F1 F2 : Option α} {o : α} (d : decode cc pc = .ok (.ifCond .ne off, 3)) (ht : (pc : Int) + off = (tgt : Int)) (h : (if x = 0 then F2 else F1) = some o) (kt : F1 = some o → T G A p l e R s m args below meth c nL ce sl Q tgt lo st M) (kf : F2 = some o → T G A p l e R s m args below meth c nL ce sl Q (pc + 3) lo st M) : T G A p l e R s m args below meth c nL ce sl Q pc lo (.int x :: st) M :=
  fun H locs ls hS hP hl => lv_if_ne X.1 X.2.1 d ht (fun hc => kt (by rw [if_neg hc] at h; exact h) H locs ls hS hP hl) (fun hc => kf (by rw [if_pos hc] at h; exact h) H locs ls hS hP hl)
theorem r_icmp_ne (X : Cx G A p s m args meth c own cc nL) {x y : Int32} {off : Int} {tgt : Nat} {α : Type} {F1 F2 : Option α} {o : α} (d : decode cc pc = .ok (.if_icmp .ne off, 3)) (ht : (pc : Int) + off = (tgt : Int)) (h : (if x = y then F2 else F1) = some o) (kt : F1 = some o → T G A p l e R s m args below meth c nL ce sl Q tgt lo st M) (kf : F2 = some o → T G A p l e R s m args below meth c nL ce sl Q (pc + 3) lo st M) : T G A p l e R s m args below meth c nL ce sl Q pc lo (.int y :: .int x :: st) M :=
  fun H locs ls hS hP hl => lv_icmp_ne X.1 X.2.1 d ht (fun hc => kt (by rw [if_neg hc] at h; exact h) H locs ls hS hP hl) (fun hc => kf (by rw [if_pos hc] at h; exact h) H locs ls hS hP hl)
theorem r_if_lt (X : Cx G A p s m args meth c own cc nL) {x : Int32} {off : Int} {tgt : Nat} {α : Type} {F1 F2 : Option α} {o : α} (d : decode cc pc = .ok (.ifCond .lt off, 3)) (ht : (pc : Int) + off = (tgt : Int)) (h : (if x < 0 then F1 else F2) = some o) (kt : F1 = some o → T G A p l e R s m args below meth c nL ce sl Q tgt lo st M) (kf : F2 = some o → T G A p l e R s m args below meth c nL ce sl Q (pc + 3) lo st M) : T G A p l e R s m args below meth c nL ce sl Q pc lo (.int x :: st) M :=
  fun H locs ls hS hP hl => lv_if_lt X.1 X.2.1 d ht (fun hc => kt (by rw [if_pos hc] at h; exact h) H locs ls hS hP hl) (fun hc => kf (by rw [if_neg hc] at h; exact h) H locs ls hS hP hl)
theorem r_icmp_lt (X : Cx G A p s m args meth c own cc nL) {x y : Int32} {off : Int} {tgt : Nat} {α : Type} {F1 F2 : Option α} {o : α} (d : decode cc pc = .ok (.if_icmp .lt off, 3)) (ht : (pc : Int) + off = (tgt : Int)) (h : (if x < y then F1 else F2) = some o) (kt : F1 = some o → T G A p l e R s m args below meth c nL ce sl Q tgt lo st M) (kf : F2 = some o → T G A p l e R s m args below meth c nL ce sl Q (pc + 3) lo st M) : T G A p l e R s m args below meth c nL ce sl Q pc lo (.int y :: .int x :: st) M :=
  fun H locs ls hS hP hl => lv_icmp_lt X.1 X.2.1 d ht (fun hc => kt (by rw [if_pos hc] at h; exact h) H locs ls hS hP hl) (fun hc => kf (by rw [if_neg hc] at h; exact h) H locs ls hS hP hl)
theorem r_if_ge (X : Cx G A p s m args meth c own cc nL) {x : Int32} {off : Int} {tgt : Nat} {α : Type} {F1 F2 : Option α} {o : α} (d : decode cc pc = .ok (.ifCond .ge off, 3)) (ht : (pc : Int) + off = (tgt : Int)) (h : (if 0 ≤ x then F1 else F2) = some o) (kt : F1 = some o → T G A p l e R s m args below meth c nL ce sl Q tgt lo st M) (kf : F2 = some o → T G A p l e R s m args below meth c nL ce sl Q (pc + 3) lo st M) : T G A p l e R s m args below meth c nL ce sl Q pc lo (.int x :: st) M :=
  fun H locs ls hS hP hl => lv_if_ge X.1 X.2.1 d ht (fun hc => kt (by rw [if_pos hc] at h; exact h) H locs ls hS hP hl) (fun hc => kf (by rw [if_neg hc] at h; exact h) H locs ls hS hP hl)
theorem r_icmp_ge (X : Cx G A p s m args meth c own cc nL) {x y : Int32} {off : Int} {tgt : Nat} {α : Type} {F1 F2 : Option α} {o : α} (d : decode cc pc = .ok (.if_icmp .ge off, 3)) (ht : (pc : Int) + off = (tgt : Int)) (h : (if y ≤ x then F1 else F2) = some o) (kt : F1 = some o → T G A p l e R s m args below meth c nL ce sl Q tgt lo st M) (kf : F2 = some o → T G A p l e R s m args below meth c nL ce sl Q (pc + 3) lo st M) : T G A p l e R s m args below meth c nL ce sl Q pc lo (.int y :: .int x :: st) M :=
  fun H locs ls hS hP hl => lv_icmp_ge X.1 X.2.1 d ht (fun hc => kt (by rw [if_pos hc] at h; exact h) H locs ls hS hP hl) (fun hc => kf (by rw [if_neg hc] at h; exact h) H locs ls hS hP hl)
theorem r_if_gt (X : Cx G A p s m args meth c own cc nL) {x : Int32} {off : Int} {tgt : Nat} {α : Type} {F1 F2 : Option α} {o : α} (d : decode cc pc = .ok (.ifCond .gt off, 3)) (ht : (pc : Int) + off = (tgt : Int)) (h : (if 0 < x then F1 else F2) = some o) (kt : F1 = some o → T G A p l e R s m args below meth c nL ce sl Q tgt lo st M) (kf : F2 = some o → T G A p l e R s m args below meth c nL ce sl Q (pc + 3) lo st M) : T G A p l e R s m args below meth c nL ce sl Q pc lo (.int x :: st) M :=
  fun H locs ls hS hP hl => lv_if_gt X.1 X.2.1 d ht (fun hc => kt (by rw [if_pos hc] at h; exact h) H locs ls hS hP hl) (fun hc => kf (by rw [if_neg hc] at h; exact h) H locs ls hS hP hl)
theorem r_icmp_gt (X : Cx G A p s m args meth c own cc nL) {x y : Int32} {off : Int} {tgt : Nat} {α : Type} {F1 F2 : Option α} {o : α} (d : decode cc pc = .ok (.if_icmp .gt off, 3)) (ht : (pc : Int) + off = (tgt : Int)) (h : (if y < x then F1 else F2) = some o) (kt : F1 = some o → T G A p l e R s m args below meth c nL ce sl Q tgt lo st M) (kf : F2 = some o → T G A p l e R s m args below meth c nL ce sl Q (pc + 3) lo st M) : T G A p l e R s m args below meth c nL ce sl Q pc lo (.int y :: .int x :: st) M :=
  fun H locs ls hS hP hl => lv_icmp_gt X.1 X.2.1 d ht (fun hc => kt (by rw [if_pos hc] at h; exact h) H locs ls hS hP hl) (fun hc => kf (by rw [if_neg hc] at h; exact h) H locs ls hS hP hl)
theorem r_if_le (X : Cx G A p s m args meth c own cc nL) {x : Int32} {off : Int} {tgt : Nat} {α : Type} {F1 F2 : Option α} {o : α} (d : decode cc pc = .ok (.ifCond .le off, 3)) (ht : (pc : Int) + off = (tgt : Int)) (h : (if x ≤ 0 then F1 else F2) = some o) (kt : F1 = some o → T G A p l e R s m args below meth c nL ce sl Q tgt lo st M) (kf : F2 = some o → T G A p l e R s m args below meth c nL ce sl Q (pc + 3) lo st M) : T G A p l e R s m args below meth c nL ce sl Q pc lo (.int x :: st) M :=
  fun H locs ls hS hP hl => lv_if_le X.1 X.2.1 d ht (fun hc => kt (by rw [if_pos hc] at h; exact h) H locs ls hS hP hl) (fun hc => kf (by rw [if_neg hc] at h; exact h) H locs ls hS hP hl)
theorem r_icmp_le (X : Cx G A p s m args meth c own cc nL) {x y : Int32} {off : Int} {tgt : Nat} {α : Type} {F1 F2 : Option α} {o : α} (d : decode cc pc = .ok (.if_icmp .le off, 3)) (ht : (pc : Int) + off = (tgt : Int)) (h : (if x ≤ y then F1 else F2) = some o) (kt : F1 = some o → T G A p l e R s m args below meth c nL ce sl Q tgt lo st M) (kf : F2 = some o → T G A p l e R s m args below meth c nL ce sl Q (pc + 3) lo st M) : T G A p l e R s m args below meth c nL ce sl Q pc lo (.int y :: .int x :: st) M :=
  fun H locs ls hS hP hl => lv_icmp_le X.1 X.2.1 d ht (fun hc => kt (by rw [if_pos hc] at h; exact h) H locs ls hS hP hl) (fun hc => kf (by rw [if_neg hc] at h; exact h) H locs ls hS hP hl)
theorem gcl_at : ∀ {ci : Nat} {q : vw_C}, gcl[ci]? = some q → (∀ w ∈ u_ws q.1 q.2.1 q.2.2, w ∈ gtb) ∧ (∃ ty0 : Nat → FieldType, ∀ k, k < q.2.2 → parseFieldDescriptor (q.2.1 k).2.2.1 = some (ty0 k)) ∧ (∀ a, a < q.2.2 → ∀ b, b < q.2.2 → a ≠ b → (q.2.1 a).2.1 ≠ (q.2.1 b).2.1) ∧ nfO ci = q.2.2 ∧ ci < 20 := by
  intro ci q h
  match ci, h with
  | 0, h => cases h; exact ⟨by decide +kernel, ⟨tyX1, tyX1_ok⟩, nmX1, rfl, by decide⟩
  | 1, h => cases h; exact ⟨by decide +kernel, ⟨tyX2, tyX2_ok⟩, nmX2, rfl, by decide⟩
  | 2, h => cases h; exact ⟨by decide +kernel, ⟨tyX3, tyX3_ok⟩, nmX3, rfl, by decide⟩
  | 3, h => cases h; exact ⟨by decide +kernel, ⟨tyX4, tyX4_ok⟩, nmX4, rfl, by decide⟩
  | 4, h => cases h; exact ⟨by decide +kernel, ⟨tyX5, tyX5_ok⟩, nmX5, rfl, by decide⟩
  | 5, h => cases h; exact ⟨by decide +kernel, ⟨tyX6, tyX6_ok⟩, nmX6, rfl, by decide⟩
  | 6, h => cases h; exact ⟨by decide +kernel, ⟨tyX7, tyX7_ok⟩, nmX7, rfl, by decide⟩
  | 7, h => cases h; exact ⟨by decide +kernel, ⟨tyX8, tyX8_ok⟩, nmX8, rfl, by decide⟩
  | 8, h => cases h; exact ⟨by decide +kernel, ⟨tyX9, tyX9_ok⟩, nmX9, rfl, by decide⟩
  | 9, h => cases h; exact ⟨by decide +kernel, ⟨tyX11, tyX11_ok⟩, nmX11, rfl, by decide⟩
  | 10, h => cases h; exact ⟨by decide +kernel, ⟨tyX12, tyX12_ok⟩, nmX12, rfl, by decide⟩
  | n + 11, h => simp [gcl] at h
/-- a field's place in the pool of a class -/
def FL (own : String) (index ci k : Nat) (ds : String) : Prop := ∃ q : vw_C, gcl[ci]? = some q ∧ k < q.2.2 ∧ Cond.fieldLink own index (q.2.1 k).1 (q.2.1 k).2.1 (q.2.1 k).2.2.1 ∈ gtb ∧ (q.2.1 k).2.2.1 = ds
theorem ent_obj {o : Oid} (h : o.1 < 20) : ent G M o = .inr (o.1, (List.range (nfO o.1)).map (fvO G M o)) := by unfold ent; rw [if_pos h]
theorem ent_arr {o : Oid} (h : ¬ o.1 < 20) : ent G M o = .inl (G.2.2.1 (akO o).1, (akO o).2, acO G M o (akO o).1) := by unfold ent; rw [if_neg h]
theorem r_get (X : Cx G A p s m args meth c own cc nL) {o : Oid} {index k : Nat} {ds : String} {v : Value} (ho : okO G.2.2.2.2 o) (f : FL own index o.1 k ds) (hv : fvO G M o k = v) (d : decode cc pc = .ok (.getfield index, 3))
    (kk : T G A p l e R s m args below meth c nL ce sl Q (pc + 3) lo (v :: st) M) : T G A p l e R s m args below meth c nL ce sl Q pc lo (.ref (G.2.1 o) :: st) M := by
  intro H locs ls hS hP hl
  obtain ⟨⟨C, TT, N⟩, hq, hk, hlink, -⟩ := f
  obtain ⟨hin, -, -, hn, h20⟩ := gcl_at hq
  obtain ⟨i, -, hi⟩ := wl_at (G := G) ho
  have he := hi M
  rw [ent_obj h20] at he
  exact va_get X.1 X.2.1 X.2.2.2.2.1 hin X.2.2.2.1 X.2.2.2.2.2.2.2.2.1 hP i he hq k hk (X.2.2.2.2.1 _ hlink) (fun _ h => h) (v := v) (by
    rw [List.getElem?_map, List.getElem?_range (by rw [hn]; exact hk)]
    exact congrArg some hv) d (kk H locs ls hS hP hl)
theorem fvO_int {o : Oid} {k : Nat} (h : (fkO o k).1 = 0) : fvO G M o k = .int (M.1 o k) := by
  unfold fvO
  rcases hf : fkO o k with ⟨a, b⟩
  rw [hf] at h
  simp only at h
  subst h
  rfl
theorem fvO_long {o : Oid} {k : Nat} (h : (fkO o k).1 = 1) : fvO G M o k = .long (M.2.1 o k) := by
  unfold fvO
  rcases hf : fkO o k with ⟨a, b⟩
  rw [hf] at h
  simp only at h
  subst h
  rfl
theorem fvO_word {o : Oid} {k : Nat} (h : (fkO o k).1 = 3) : fvO G M o k = .ref (G.2.2.2.1 (M.1 o k).toNatClampNeg) := by
  unfold fvO
  rcases hf : fkO o k with ⟨a, b⟩
  rw [hf] at h
  simp only at h
  subst h
  rfl
theorem map_put {β : Type} {f g : Nat → β} {k n : Nat} {v : β} (hk : k < n) (hv : g k = v) (hj : ∀ j, j ≠ k → g j = f j) : ((List.range n).map f).set k v = (List.range n).map g := by
  apply List.ext_getElem?
  intro j
  by_cases h : k = j
  · subst h
    rw [List.getElem?_set_self (by rw [List.length_map, List.length_range]; exact hk), List.getElem?_map, List.getElem?_range hk]
    exact congrArg some hv.symm
  · rw [List.getElem?_set_ne h, List.getElem?_map, List.getElem?_map]
    by_cases hn : j < n
    · rw [List.getElem?_range hn]
      exact congrArg some (hj j (fun e => h e.symm)).symm
    · rw [List.getElem?_eq_none (by rw [List.length_range]; omega)]; rfl
theorem fs_put {M' : Mem} {o : Oid} {k n : Nat} {v : Value} (hk : k < n) (hv : fvO G M' o k = v) (hj : ∀ j, j ≠ k → fvO G M' o j = fvO G M o j) : ((List.range n).map (fvO G M o)).set k v = (List.range n).map (fvO G M' o) := map_put hk hv hj
/-- a field that may be written -/
def FP (own : String) (index ci k : Nat) (ds : String) : Prop := ∃ q : vw_C, gcl[ci]? = some q ∧ k < q.2.2 ∧ Cond.fieldLink own index (q.2.1 k).1 (q.2.1 k).2.1 (q.2.1 k).2.2.1 ∈ gtb ∧ (q.2.1 k).2.2.1 = ds ∧ (q.2.1 k).2.2.2 = false
theorem Cx_D (X : Cx G A p s m args meth c own cc nL) : va_D A (wl G M) := (wl_D X.2.2.2.2.2.2.2.1).weaken fun _ _ _ h => X.2.2.2.2.2.2.1 _ h
theorem r_putx (X : Cx G A p s m args meth c own cc nL) {o : Oid} {index k : Nat} {ds : String} {ty : FieldType} {v : Value} {M' : Mem} (ho : okO G.2.2.2.2 o) (f : FP own index o.1 k ds) (hty : parseFieldDescriptor ds = some ty) (hnr : narrow ty v = v) (hft : fits ty v = true)
    (hv : fvO G M' o k = v) (hj : ∀ j, j ≠ k → fvO G M' o j = fvO G M o j) (hq : ∀ q, q ≠ o → ent G M' q = ent G M q) (d : decode cc pc = .ok (.putfield index, 3))
    (kk : T G A p l e R s m args below meth c nL ce sl Q (pc + 3) lo st M') : T G A p l e R s m args below meth c nL ce sl Q pc lo (v :: .ref (G.2.1 o) :: st) M := by
  intro H locs ls hS hP hl
  obtain ⟨⟨C, TT, N⟩, hc, hk, hlink, hds, hfin⟩ := f
  obtain ⟨hin, ⟨ty0, hty0⟩, hnm, hn, h20⟩ := gcl_at hc
  obtain ⟨i, hio, hi⟩ := wl_at (G := G) ho
  have he := hi M
  rw [ent_obj h20] at he
  refine va_put X.1 X.2.1 X.2.2.2.2.1 hin ty0 hty0 hnm X.2.2.2.1 X.2.2.2.2.2.2.2.2.1 hP (Cx_D X) hS i he hc k hk (X.2.2.2.2.1 _ hlink) (fun _ h => h) hfin (ty := ty) (v := v) (by rw [hds]; exact hty) hnr hft (by rw [List.length_map, List.length_range, hn]; exact hk) d ?_
  intro H1 locs1 hP1 hD1 hS1
  rw [fs_put (by rw [hn]; exact hk) hv hj, ← ent_obj h20, wl_set hio hq] at hP1
  exact kk H1 locs1 ls hS1 hP1 hl
theorem uI_ne {o q : Oid} {k : Nat} {x : Int32} (h : q ≠ o) : ent G (uI M o k x) q = ent G M q := ent_congr (by funext j; simp [uI, h]) rfl rfl
theorem uL_ne {o q : Oid} {k : Nat} {x : Int64} (h : q ≠ o) : ent G (uL M o k x) q = ent G M q := ent_congr rfl (by funext j; simp [uL, h]) rfl
theorem uD_ne {o q : Oid} {k : Nat} {x : UInt64} (h : q ≠ o) : ent G (uD M o k x) q = ent G M q := ent_congr rfl rfl (by funext j; simp [uD, h])
theorem uI_at {o : Oid} {k : Nat} {x : Int32} : (uI M o k x).1 o k = x := by simp [uI]
theorem uL_at {o : Oid} {k : Nat} {x : Int64} : (uL M o k x).2.1 o k = x := by simp [uL]
theorem uI_nk {o : Oid} {k j : Nat} {x : Int32} (h : j ≠ k) : fvO G (uI M o k x) o j = fvO G M o j := fvO_congr (by simp [uI, h]) rfl
theorem uL_nk {o : Oid} {k j : Nat} {x : Int64} (h : j ≠ k) : fvO G (uL M o k x) o j = fvO G M o j := fvO_congr rfl (by simp [uL, h])
theorem r_putI (X : Cx G A p s m args meth c own cc nL) {o : Oid} {index k : Nat} {x : Int32} (ho : okO G.2.2.2.2 o) (f : FP own index o.1 k "I") (hf : (fkO o k).1 = 0) (d : decode cc pc = .ok (.putfield index, 3))
    (kk : T G A p l e R s m args below meth c nL ce sl Q (pc + 3) lo st (uI M o k x)) : T G A p l e R s m args below meth c nL ce sl Q pc lo (.int x :: .ref (G.2.1 o) :: st) M :=
  r_putx X ho f (ty := .int) (by decide +kernel) rfl rfl ((fvO_int hf).trans (congrArg Value.int uI_at)) (fun _ h => uI_nk h) (fun _ h => uI_ne h) d kk
theorem r_putZ (X : Cx G A p s m args meth c own cc nL) {o : Oid} {index k : Nat} {x : Int32} {α : Type} {F : Option α} {r : α} (ho : okO G.2.2.2.2 o) (f : FP own index o.1 k "Z") (hf : (fkO o k).1 = 0) (d : decode cc pc = .ok (.putfield index, 3)) (h : (if ¬ (x = 0 ∨ x = 1) then none else F) = some r)
    (kk : F = some r → T G A p l e R s m args below meth c nL ce sl Q (pc + 3) lo st (uI M o k x)) : T G A p l e R s m args below meth c nL ce sl Q pc lo (.int x :: .ref (G.2.1 o) :: st) M :=
  ck h fun hx h => r_putx X ho f (ty := .boolean) (by decide +kernel) (by rcases Decidable.not_not.mp hx with rfl | rfl <;> decide +kernel) (by rcases Decidable.not_not.mp hx with rfl | rfl <;> decide +kernel) ((fvO_int hf).trans (congrArg Value.int uI_at)) (fun _ h => uI_nk h) (fun _ h => uI_ne h) d (kk h)
theorem r_putL (X : Cx G A p s m args meth c own cc nL) {o : Oid} {index k : Nat} {x : Int64} (ho : okO G.2.2.2.2 o) (f : FP own index o.1 k "J") (hf : (fkO o k).1 = 1) (d : decode cc pc = .ok (.putfield index, 3))
    (kk : T G A p l e R s m args below meth c nL ce sl Q (pc + 3) lo st (uL M o k x)) : T G A p l e R s m args below meth c nL ce sl Q pc lo (.long x :: .ref (G.2.1 o) :: st) M :=
  r_putx X ho f (ty := .long) (by decide +kernel) rfl rfl ((fvO_long hf).trans (congrArg Value.long uL_at)) (fun _ h => uL_nk h) (fun _ h => uL_ne h) d kk
theorem nI_clampE {w : Nat} (h : w < 2 ^ 31) : (nI w).toNatClampNeg = w := nI_clamp h
theorem r_putW (X : Cx G A p s m args meth c own cc nL) {o : Oid} {index k w : Nat} (ho : okO G.2.2.2.2 o) (hw : w < 26) (f : FP own index o.1 k "LConverterScanner$Word;") (hf : (fkO o k).1 = 3) (d : decode cc pc = .ok (.putfield index, 3))
    (kk : T G A p l e R s m args below meth c nL ce sl Q (pc + 3) lo st (uI M o k (nI w))) : T G A p l e R s m args below meth c nL ce sl Q pc lo (.ref (G.2.2.2.1 w) :: .ref (G.2.1 o) :: st) M :=
  r_putx X ho f (ty := .object "ConverterScanner$Word") (by decide +kernel) rfl rfl ((fvO_word hf).trans (by rw [uI_at, nI_clamp (by omega)])) (fun _ h => uI_nk h) (fun _ h => uI_ne h) d kk
/-- arrays -/
abbrev bad (i : Int32) (n : Nat) : Prop := i < 0 ∨ n ≤ i.toNatClampNeg
theorem tys_at {t : Nat} (h : t < 9) : (tysG G)[t]? = some (G.2.2.1 t, tyA.getD t .int) := by
  unfold tysG
  rw [List.getElem?_map, List.getElem?_range h]
  rfl
theorem arr_at {o : Oid} {t n : Nat} (ho : okO G.2.2.2.2 o) (h20 : ¬ o.1 < 20) (ht : akO o = (t, n)) : ∃ i : Nat, (objs G.2.2.2.2)[i]? = some o ∧ ∀ M : Mem, (wl G M)[i]? = some (G.2.1 o, .inl (G.2.2.1 t, n, acO G M o t)) := by
  obtain ⟨i, h1, h2⟩ := wl_at (G := G) ho
  refine ⟨i, h1, fun M => ?_⟩
  rw [h2 M, ent_arr h20, ht]
theorem r_iald (X : Cx G A p s m args meth c own cc nL) {o : Oid} {n : Nat} {i : Int32} {α : Type} {F : Option α} {r : α} (ho : okO G.2.2.2.2 o) (ha : akO o = (0, n)) (h20 : ¬ o.1 < 20) (d : decode cc pc = .ok (.iaload, 1)) (h : (if bad i n then none else F) = some r)
    (kk : F = some r → T G A p l e R s m args below meth c nL ce sl Q (pc + 1) lo (.int (M.1 o i.toNatClampNeg) :: st) M) : T G A p l e R s m args below meth c nL ce sl Q pc lo (.int i :: .ref (G.2.1 o) :: st) M := by
  intro H locs ls hS hP hl
  refine ck h fun hb h => ?_
  obtain ⟨j, -, hj⟩ := arr_at (G := G) ho h20 ha
  exact va_iald X.1 X.2.1 X.2.2.2.2.2.2.2.2.1 hP j 0 (hj M) (tys_at (by decide)) hb d (kk h H locs ls hS hP hl)
theorem r_bald (X : Cx G A p s m args meth c own cc nL) {o : Oid} {n : Nat} {i : Int32} {α : Type} {F : Option α} {r : α} (ho : okO G.2.2.2.2 o) (ha : akO o = (1, n)) (h20 : ¬ o.1 < 20) (d : decode cc pc = .ok (.baload, 1)) (h : (if bad i n then none else F) = some r)
    (kk : F = some r → T G A p l e R s m args below meth c nL ce sl Q (pc + 1) lo (.int (M.1 o i.toNatClampNeg) :: st) M) : T G A p l e R s m args below meth c nL ce sl Q pc lo (.int i :: .ref (G.2.1 o) :: st) M := by
  intro H locs ls hS hP hl
  refine ck h fun hb h => ?_
  obtain ⟨j, -, hj⟩ := arr_at (G := G) ho h20 ha
  exact va_bald X.1 X.2.1 X.2.2.2.2.2.2.2.2.1 hP j 1 (hj M) (tys_at (by decide)) hb d (kk h H locs ls hS hP hl)
theorem r_zald (X : Cx G A p s m args meth c own cc nL) {o : Oid} {n : Nat} {i : Int32} {α : Type} {F : Option α} {r : α} (ho : okO G.2.2.2.2 o) (ha : akO o = (2, n)) (h20 : ¬ o.1 < 20) (d : decode cc pc = .ok (.baload, 1)) (h : (if bad i n then none else F) = some r)
    (kk : F = some r → T G A p l e R s m args below meth c nL ce sl Q (pc + 1) lo (.int (M.1 o i.toNatClampNeg) :: st) M) : T G A p l e R s m args below meth c nL ce sl Q pc lo (.int i :: .ref (G.2.1 o) :: st) M := by
  intro H locs ls hS hP hl
  refine ck h fun hb h => ?_
  obtain ⟨j, -, hj⟩ := arr_at (G := G) ho h20 ha
  exact va_zald X.1 X.2.1 X.2.2.2.2.2.2.2.2.1 hP j 2 (hj M) (tys_at (by decide)) hb d (kk h H locs ls hS hP hl)
theorem r_lald (X : Cx G A p s m args meth c own cc nL) {o : Oid} {n : Nat} {i : Int32} {α : Type} {F : Option α} {r : α} (ho : okO G.2.2.2.2 o) (ha : akO o = (3, n)) (h20 : ¬ o.1 < 20) (d : decode cc pc = .ok (.laload, 1)) (h : (if bad i n then none else F) = some r)
    (kk : F = some r → T G A p l e R s m args below meth c nL ce sl Q (pc + 1) lo (.long (M.2.1 o i.toNatClampNeg) :: st) M) : T G A p l e R s m args below meth c nL ce sl Q pc lo (.int i :: .ref (G.2.1 o) :: st) M := by
  intro H locs ls hS hP hl
  refine ck h fun hb h => ?_
  obtain ⟨j, -, hj⟩ := arr_at (G := G) ho h20 ha
  exact va_lald X.1 X.2.1 X.2.2.2.2.2.2.2.2.1 hP j 3 (hj M) (tys_at (by decide)) hb d (kk h H locs ls hS hP hl)
theorem r_aald (X : Cx G A p s m args meth c own cc nL) {o : Oid} {t n : Nat} {i : Int32} {α : Type} {F : Option α} {r : α} (ho : okO G.2.2.2.2 o) (ha : akO o = (t + 5, n)) (ht : t < 4) (h20 : ¬ o.1 < 20) (d : decode cc pc = .ok (.aaload, 1)) (h : (if bad i n then none else F) = some r)
    (kk : ¬ bad i n → F = some r → T G A p l e R s m args below meth c nL ce sl Q (pc + 1) lo (.ref (G.2.1 (arO o i.toNatClampNeg)) :: st) M) : T G A p l e R s m args below meth c nL ce sl Q pc lo (.int i :: .ref (G.2.1 o) :: st) M := by
  intro H locs ls hS hP hl
  refine ck h fun hb h => ?_
  obtain ⟨j, -, hj⟩ := arr_at (G := G) ho h20 ha
  have hty : ∃ C : String, tyA.getD (t + 5) .int = .object C := by
    match t, ht with
    | 0, _ => exact ⟨_, rfl⟩
    | 1, _ => exact ⟨_, rfl⟩
    | 2, _ => exact ⟨_, rfl⟩
    | 3, _ => exact ⟨_, rfl⟩
  obtain ⟨C, hC⟩ := hty
  exact va_aldq (f := fun i => some (G.2.1 (arO o i))) X.1 X.2.1 X.2.2.2.2.2.2.2.2.1 hP j (t + 5) (hj M) (by rw [← hC]; exact tys_at (by omega)) hb d (kk hb h H locs ls hS hP hl)
theorem r_alen (X : Cx G A p s m args meth c own cc nL) {o : Oid} {t n : Nat} {v : Int32} (ho : okO G.2.2.2.2 o) (ha : akO o = (t, n)) (ht : t < 9) (h20 : ¬ o.1 < 20) (hv : Int32.ofNat n = v) (d : decode cc pc = .ok (.arraylength, 1))
    (kk : T G A p l e R s m args below meth c nL ce sl Q (pc + 1) lo (.int v :: st) M) : T G A p l e R s m args below meth c nL ce sl Q pc lo (.ref (G.2.1 o) :: st) M := by
  intro H locs ls hS hP hl
  obtain ⟨j, -, hj⟩ := arr_at (G := G) ho h20 ha
  exact va_alen X.1 X.2.1 X.2.2.2.2.2.2.2.2.1 hP j t (hj M) (tys_at ht) hv d (kk H locs ls hS hP hl)
theorem r_iast (X : Cx G A p s m args meth c own cc nL) {o : Oid} {n : Nat} {i : Int32} {x : Int32} {α : Type} {F : Option α} {r : α} (ho : okO G.2.2.2.2 o) (ha : akO o = (0, n)) (h20 : ¬ o.1 < 20) (d : decode cc pc = .ok (.iastore, 1)) (h : (if bad i n then none else F) = some r)
    (kk : F = some r → T G A p l e R s m args below meth c nL ce sl Q (pc + 1) lo st (uI M o i.toNatClampNeg x)) : T G A p l e R s m args below meth c nL ce sl Q pc lo (.int x :: .int i :: .ref (G.2.1 o) :: st) M := by
  intro H locs ls hS hP hl
  refine ck h fun hb h => ?_
  obtain ⟨j, hjo, hj⟩ := arr_at (G := G) ho h20 ha
  refine va_iast X.1 X.2.1 X.2.2.2.2.2.2.2.2.1 hP (Cx_D X) hS j 0 (hj M) (tys_at (by decide)) hb d ?_
  intro H1 locs1 hP1 hD1 hS1
  refine kk h H1 locs1 ls hS1 ?_ hl
  rw [← wl_set (M := M) hjo (fun q hq => uI_ne hq)]
  refine Eq.mp (congrArg (fun z => va_P G.1 gcl ((wl G M).set j (G.2.1 o, z)) H1) ?_) hP1
  rw [ent_arr h20, ha]
  simp only [acO, uI]
  congr 4
  funext q
  simp [upd]
theorem r_bast (X : Cx G A p s m args meth c own cc nL) {o : Oid} {n : Nat} {i : Int32} {x : Int32} {α : Type} {F : Option α} {r : α} (ho : okO G.2.2.2.2 o) (ha : akO o = (1, n)) (h20 : ¬ o.1 < 20) (d : decode cc pc = .ok (.bastore, 1)) (h : (if bad i n then none else F) = some r)
    (kk : F = some r → T G A p l e R s m args below meth c nL ce sl Q (pc + 1) lo st (uI M o i.toNatClampNeg x.toInt8.toInt32)) : T G A p l e R s m args below meth c nL ce sl Q pc lo (.int x :: .int i :: .ref (G.2.1 o) :: st) M := by
  intro H locs ls hS hP hl
  refine ck h fun hb h => ?_
  obtain ⟨j, hjo, hj⟩ := arr_at (G := G) ho h20 ha
  refine va_bast X.1 X.2.1 X.2.2.2.2.2.2.2.2.1 hP (Cx_D X) hS j 1 (hj M) (tys_at (by decide)) hb d ?_
  intro H1 locs1 hP1 hD1 hS1
  refine kk h H1 locs1 ls hS1 ?_ hl
  rw [← wl_set (M := M) hjo (fun q hq => uI_ne hq)]
  refine Eq.mp (congrArg (fun z => va_P G.1 gcl ((wl G M).set j (G.2.1 o, z)) H1) ?_) hP1
  rw [ent_arr h20, ha]
  simp only [acO, uI]
  congr 4
  funext q
  simp [upd, vp_nar, narrow]
theorem r_zast (X : Cx G A p s m args meth c own cc nL) {o : Oid} {n : Nat} {i : Int32} {x : Int32} {α : Type} {F : Option α} {r : α} (ho : okO G.2.2.2.2 o) (ha : akO o = (2, n)) (h20 : ¬ o.1 < 20) (d : decode cc pc = .ok (.bastore, 1)) (h : (if bad i n then none else F) = some r)
    (kk : F = some r → T G A p l e R s m args below meth c nL ce sl Q (pc + 1) lo st (uI M o i.toNatClampNeg (x &&& 1))) : T G A p l e R s m args below meth c nL ce sl Q pc lo (.int x :: .int i :: .ref (G.2.1 o) :: st) M := by
  intro H locs ls hS hP hl
  refine ck h fun hb h => ?_
  obtain ⟨j, hjo, hj⟩ := arr_at (G := G) ho h20 ha
  refine va_zast X.1 X.2.1 X.2.2.2.2.2.2.2.2.1 hP (Cx_D X) hS j 2 (hj M) (tys_at (by decide)) hb d ?_
  intro H1 locs1 hP1 hD1 hS1
  refine kk h H1 locs1 ls hS1 ?_ hl
  rw [← wl_set (M := M) hjo (fun q hq => uI_ne hq)]
  refine Eq.mp (congrArg (fun z => va_P G.1 gcl ((wl G M).set j (G.2.1 o, z)) H1) ?_) hP1
  rw [ent_arr h20, ha]
  simp only [acO, uI]
  congr 4
  funext q
  simp [upd, vp_nar, narrow]
theorem r_last (X : Cx G A p s m args meth c own cc nL) {o : Oid} {n : Nat} {i : Int32} {x : Int64} {α : Type} {F : Option α} {r : α} (ho : okO G.2.2.2.2 o) (ha : akO o = (3, n)) (h20 : ¬ o.1 < 20) (d : decode cc pc = .ok (.lastore, 1)) (h : (if bad i n then none else F) = some r)
    (kk : F = some r → T G A p l e R s m args below meth c nL ce sl Q (pc + 1) lo st (uL M o i.toNatClampNeg x)) : T G A p l e R s m args below meth c nL ce sl Q pc lo (.long x :: .int i :: .ref (G.2.1 o) :: st) M := by
  intro H locs ls hS hP hl
  refine ck h fun hb h => ?_
  obtain ⟨j, hjo, hj⟩ := arr_at (G := G) ho h20 ha
  refine va_last X.1 X.2.1 X.2.2.2.2.2.2.2.2.1 hP (Cx_D X) hS j 3 (hj M) (tys_at (by decide)) hb d ?_
  intro H1 locs1 hP1 hD1 hS1
  refine kk h H1 locs1 ls hS1 ?_ hl
  rw [← wl_set (M := M) hjo (fun q hq => uL_ne hq)]
  refine Eq.mp (congrArg (fun z => va_P G.1 gcl ((wl G M).set j (G.2.1 o, z)) H1) ?_) hP1
  rw [ent_arr h20, ha]
  simp only [acO, uL]
  congr 5
  funext q
  simp [vp_updL]
theorem r_dast (X : Cx G A p s m args meth c own cc nL) {o : Oid} {n : Nat} {i : Int32} {x : UInt64} {α : Type} {F : Option α} {r : α} (ho : okO G.2.2.2.2 o) (ha : akO o = (4, n)) (h20 : ¬ o.1 < 20) (d : decode cc pc = .ok (.dastore, 1)) (h : (if bad i n then none else F) = some r)
    (kk : F = some r → T G A p l e R s m args below meth c nL ce sl Q (pc + 1) lo st (uD M o i.toNatClampNeg x)) : T G A p l e R s m args below meth c nL ce sl Q pc lo (.double x :: .int i :: .ref (G.2.1 o) :: st) M := by
  intro H locs ls hS hP hl
  refine ck h fun hb h => ?_
  obtain ⟨j, hjo, hj⟩ := arr_at (G := G) ho h20 ha
  refine va_dast X.1 X.2.1 X.2.2.2.2.2.2.2.2.1 hP (Cx_D X) hS j 4 (hj M) (tys_at (by decide)) hb d ?_
  intro H1 locs1 hP1 hD1 hS1
  refine kk h H1 locs1 ls hS1 ?_ hl
  rw [← wl_set (M := M) hjo (fun q hq => uD_ne hq)]
  refine Eq.mp (congrArg (fun z => va_P G.1 gcl ((wl G M).set j (G.2.1 o, z)) H1) ?_) hP1
  rw [ent_arr h20, ha]
  simp only [acO, uD]
  congr 7
  funext q
  simp [vf_upd]
end ROWS
