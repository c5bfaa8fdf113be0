/-! ===== THROWING: contracts that return or throw ===== -/
def exNames : List String := ["java/lang/RuntimeException", "java/lang/Exception"]
def exn : Nat → String := fun k => match k with
  | 0 => "java/lang/IllegalStateException"
  | 1 => "java/lang/IllegalArgumentException"
  | 2 => "java/lang/IndexOutOfBoundsException"
  | _ => "java/util/NoSuchElementException"
def exIk : Nat → Nat := fun k => match k with | 0 => 44 | 1 => 55 | 2 => 262 | _ => 107
def exIc : Nat → Nat := fun k => match k with | 0 => 48 | 1 => 59 | 2 => 266 | _ => 111
def six13 : ByteArray := ⟨#[0x2a, 0x2b, 0xb7, 0x00, 0x0d, 0xb1]⟩
def atN : List Cond := (Bundle.throwableAtoms ++ Bundle.throwableSAtoms ++ (Bundle.passSAtoms "java/util/NoSuchElementException" "java/lang/RuntimeException" 13 six13 ++ Bundle.chainSAtoms "java/lang/RuntimeException" ["java/lang/Exception"]) ++ (Bundle.ownAtoms RX11 111 "java/util/NoSuchElementException" exNames).drop (Bundle.throwableAtoms ++ Bundle.throwableSAtoms ++ Bundle.chainSAtoms "java/util/NoSuchElementException" exNames).length).filter vx_no
def atX (k : Nat) : List Cond := if k < 3 then vx_atS RX11 (exIc k) (exn k) exNames else atN
def isCD : Cond → Bool := fun w => match w with
  | .castable .. => true
  | .declares _ => true
  | _ => false
theorem atX_kind (k : Nat) (hk : k < 4) : (atX k).all (fun w => goodWord w || isCD w) = true := by
  match k, hk with
  | 0, _ => decide +kernel
  | 1, _ => decide +kernel
  | 2, _ => decide +kernel
  | 3, _ => decide +kernel
theorem atX_in (k : Nat) (hk : k < 4) : (atX k).all (fun w => !goodWord w || decide (w ∈ lw_tbl)) = true := by
  match k, hk with
  | 0, _ => decide +kernel
  | 1, _ => decide +kernel
  | 2, _ => decide +kernel
  | 3, _ => decide +kernel
theorem ex_ot (k : Nat) (hk : k < 4) : (Cond.classLink RX11 (exIk k) (exn k) :: Cond.initialized (exn k) :: atX k).all vx_ot = true := by
  match k, hk with
  | 0, _ => decide +kernel
  | 1, _ => decide +kernel
  | 2, _ => decide +kernel
  | 3, _ => decide +kernel
theorem ex_fit (k : Nat) (hk : k < 4) : Bundle.fit (exn k) = true ∧ (∀ n ∈ exNames, Bundle.fit n = true) := by
  match k, hk with
  | 0, _ => exact ⟨by decide +kernel, by decide +kernel⟩
  | 1, _ => exact ⟨by decide +kernel, by decide +kernel⟩
  | 2, _ => exact ⟨by decide +kernel, by decide +kernel⟩
  | 3, _ => exact ⟨by decide +kernel, by decide +kernel⟩
theorem ex_words (k : Nat) (hk : k < 4) : Cond.classLink RX11 (exIk k) (exn k) ∈ gtb ∧ Cond.initialized (exn k) ∈ gtb := by
  match k, hk with
  | 0, _ => exact ⟨gt (List.mem_of_getElem? (i := 833) (by decide +kernel)) (by decide +kernel), gt (by decide +kernel) (by decide +kernel)⟩
  | 1, _ => exact ⟨gt (List.mem_of_getElem? (i := 913) (by decide +kernel)) (by decide +kernel), gt (by decide +kernel) (by decide +kernel)⟩
  | 2, _ => exact ⟨gt (List.mem_of_getElem? (i := 1046) (by decide +kernel)) (by decide +kernel), gt (by decide +kernel) (by decide +kernel)⟩
  | 3, _ => exact ⟨gt (List.mem_of_getElem? (i := 1071) (by decide +kernel)) (by decide +kernel), gt (by decide +kernel) (by decide +kernel)⟩
def strL : List (Nat × String) := [(46, "the buffer would exceed 900 bytes"), (57, "the length is not 0 to the current length"), (388, "the number of cycles is out of range"), (376, "the trigger is not 0 to 3"), (109, "the queue is empty"), (384, "there is no such window"), (371, "the channel is not 0 to 7"), (149, "the base, the slope or the period is out of range"), (175, "the sample time is not 1 to 99"), (181, "a bound is out of range"), (393, "the pace is not 0 to 999"), (386, "there is no such number to ask for"), (264, "there is no such entry"), (285, "there is no result of the channel"), (321, "the cycle is negative"), (330, "there is no such result"), (343, "the entry has no result yet"), (348, "the sequence has no results so far"), (395, "the slot is not 0 or 1"), (366, "nothing is saved in the slot")]
/-- what the tables say beside the words that stay: casts, the texts -/
def SX (U : State) : Prop := (∀ k, k < 4 → ∀ w ∈ atX k, isCD w = true → va_Nw w U) ∧ (∀ q ∈ strL, ∃ sa : Nat, vk_R RX11 q.1 q.2 sa U) ∧ (∀ i j, i < 4 → j < 4 → i ≠ j → va_Nc (exn i) (exn j) U)
def ZX (A : Nat → Prop) (U : State) (H : Heap) : Prop := vx_Zq Bundle.tN "UNASSIGNED_STACK" Bundle.steD A U H ∧ vx_Zq Bundle.tN "SUPPRESSED_SENTINEL" Bundle.listD A U H
theorem SX.warm {s U : State} (hW : s.WarmedH U.vm) (h : SX s) : SX U := by
  refine ⟨fun k hk w hw hc => ?_, fun q hq => (h.2.1 q hq).elim fun sa hs => ⟨sa, vk_R.warm hW hs⟩, fun i j hi hj hn => va_Nc.moved hW.alike (h.2.2 i j hi hj hn)⟩
  have h1 := h.1 k hk w hw hc
  cases w <;> first | exact va_Nw.warmC hW h1 | exact va_Nw.warmD hW h1 | (simp [isCD] at hc; done)
theorem SX.same {u U : State} (hv : u.vm = U.vm) (h : SX u) : SX U := by
  refine ⟨fun k hk w hw hc => ?_, fun q hq => (h.2.1 q hq).elim fun sa hs => ⟨sa, vk_R.same hv.symm hs⟩, fun i j hi hj hn => va_Nc.moved (by rw [hv]; exact Vm.Alike.refl U.vm) (h.2.2 i j hi hj hn)⟩
  have h1 := h.1 k hk w hw hc
  cases w <;> first | exact va_Nw.same rfl hv h1 | (simp [isCD] at hc; done)
theorem ZX.moved {A : Nat → Prop} {u U : State} {H : Heap} (hvm : u.vm.Alike U.vm) (h : ZX A u H) : ZX A U H := ⟨vx_Zq.moved hvm h.1, vx_Zq.moved hvm h.2⟩
theorem ZX.kept {A : Nat → Prop} {U : State} {H H1 : Heap} (h : ZX A U H) (hq : ∀ a : Nat, a < H.size → ¬ A a → H1[a]? = H[a]?) : ZX A U H1 := ⟨h.1.kept hq, h.2.kept hq⟩
theorem ZX.narrow {A B : Nat → Prop} {U : State} {H : Heap} (h : ZX A U H) (hAB : ∀ q, B q → A q) : ZX B U H := ⟨h.1.narrow hAB, h.2.narrow hAB⟩
theorem atX_hat {args : Array Value} {s : State} (hts : ∀ w ∈ gtb, w.before args s = true) (hS : SX s) {k : Nat} (hk : k < 4) : ∀ w ∈ atX k, w.before args s = true := by
  intro w hw
  have h1 := List.all_eq_true.mp (atX_kind k hk) w hw
  have h2 := List.all_eq_true.mp (atX_in k hk) w hw
  by_cases hg : goodWord w = true
  · rw [hg] at h2
    simp only [Bool.not_true, Bool.false_or, decide_eq_true_eq] at h2
    exact hts w (gt h2 hg)
  · have hc : isCD w = true := by
      cases hb : goodWord w with
      | true => exact absurd hb hg
      | false => rw [hb] at h1; simpa using h1
    have h3 := hS.1 k hk w hw hc
    cases w <;> first | exact va_Nw.use rfl h3 | (simp [isCD] at hc; done)
theorem atX_hat3 {args : Array Value} {s : State} (hts : ∀ w ∈ gtb, w.before args s = true) (hS : SX s) {k : Nat} (hk : k < 3) : ∀ w ∈ vx_atS RX11 (exIc k) (exn k) exNames, w.before args s = true := by
  have h := atX_hat hts hS (k := k) (by omega)
  unfold atX at h
  rw [if_pos hk] at h
  exact h
theorem atX_ot3 {k : Nat} (hk : k < 3) : ∀ w ∈ Cond.classLink RX11 (exIk k) (exn k) :: Cond.initialized (exn k) :: vx_atS RX11 (exIc k) (exn k) exNames, vx_ot w = true := by
  have h := ex_ot k (by omega)
  unfold atX at h
  rw [if_pos hk] at h
  exact fun w hw => List.all_eq_true.mp h w hw
/-- what a throwing method may write: the world, and what is new -/
def AX (G : GG) (sz : Nat) : Nat → Prop := fun q => AA G q ∨ sz ≤ q
theorem AX_mono {G : GG} {a b : Nat} (h : a ≤ b) : ∀ q, AX G b q → AX G a q := fun q hq => hq.elim Or.inl (fun z => Or.inr (Nat.le_trans h z))
def rmX (d k : Nat) : Room := { frames := d, cells := k, slots := 6 * k, locals := 36 * d }
def PcX (G : GG) (sz : Nat) (avs : List Value) (M : Mem) : Array Value → State → Prop := va_Pc avs (fun U => U.heap.size = sz ∧ Inj G ∧ va_K G.1 gcl (tysG G) U ∧ EN G.2.2.2.1 (AX G sz) U U.heap ∧ SX U ∧ ZX (AX G sz) U U.heap ∧ va_P G.1 gcl (wl G M) U.heap)
theorem PcX_blind {G : GG} {sz : Nat} {avs : List Value} {M : Mem} : FrameBlind (PcX G sz avs M) := fun a U g mk h => by
  obtain ⟨h0, hz, h1, h2, h3, h5, h6, h4⟩ := h
  exact ⟨h0, hz, h1, va_K.moved (u := U) (U := U.calling g mk a) (Vm.Alike.refl U.vm) h2, EN.moved (u := U) (U := U.calling g mk a) (Vm.Alike.refl U.vm) h3, SX.same (u := U) (U := U.calling g mk a) rfl h5, ZX.moved (u := U) (U := U.calling g mk a) (Vm.Alike.refl U.vm) h6, h4⟩
/-- where a result is a value, or a throw of a kind -/
def QiX (G : GG) (A : Nat → Prop) (r : Int32 ⊕ Nat) (M : Mem) : Array Value → State → Outcome → State → Prop := va_Qi (S := Unit) (fun x _ => r = .inl x) (fun _ t => va_P G.1 gcl (wl G M) t.heap) A
def QlX (G : GG) (A : Nat → Prop) (r : Int64 ⊕ Nat) (M : Mem) : Array Value → State → Outcome → State → Prop := va_Ql (S := Unit) (fun x _ => r = .inl x) (fun _ t => va_P G.1 gcl (wl G M) t.heap) A
def QdX (G : GG) (A : Nat → Prop) (r : UInt64 ⊕ Nat) (M : Mem) : Array Value → State → Outcome → State → Prop := va_Qd (S := Unit) (fun x _ => r = .inl x) (fun _ t => va_P G.1 gcl (wl G M) t.heap) A
def QvX (G : GG) (A : Nat → Prop) (r : Unit ⊕ Nat) (M : Mem) : Array Value → State → Outcome → State → Prop := va_Qv (S := Unit) (fun _ => r = .inl ()) (fun _ t => va_P G.1 gcl (wl G M) t.heap) A
def XX {ρ : Type} (G : GG) (A : Nat → Prop) (r : ρ ⊕ Nat) (M : Mem) : String → State → State → Prop := vx_X (S := Nat) (fun k => r = .inr k ∧ k < 4) (fun E k t => E = exn k ∧ va_P G.1 gcl (wl G M) t.heap) A
/-- a method that may throw: what stands beside -/
def CxX (G : GG) (A : Nat → Prop) (l : Launch) (s : State) (c : Code) : Prop := l.stackTraces = false ∧ SX s ∧ ZX A s s.heap ∧ (∀ x ∈ c.exceptionTable.toList, False) ∧ (∀ q, s.heap.size ≤ q → A q)
def bndX {ρ σ : Type} (o : Option ((ρ ⊕ Nat) × Mem)) (k : ρ → Mem → Option ((σ ⊕ Nat) × Mem)) : Option ((σ ⊕ Nat) × Mem) := match o with
  | none => none
  | some (.inl v, M) => k v M
  | some (.inr e, M) => some (.inr e, M)
section THROW
variable {G : GG} {A : Nat → Prop} {p : Program} {l : Launch} {e : Env} {R : Room} {s : State} {m : MethodId} {args : Array Value} {below : List Frame} {meth : Method} {c : Code} {nL ce sl : Nat} {Q : State → Prop} {own : String} {cc : ByteArray}
  {pc : Nat} {lo : List (Nat × Value)} {st : List Value} {M : Mem}
theorem T_widen {k n : Nat} (h1 : ce ≤ k) (h2 : sl ≤ n) (h : T G A p l e R s m args below meth c nL k n Q pc lo st M) : T G A p l e R s m args below meth c nL ce sl Q pc lo st M := fun H locs ls hS hP hl => W.widen h1 h2 (h H locs ls hS hP hl)
end THROW
