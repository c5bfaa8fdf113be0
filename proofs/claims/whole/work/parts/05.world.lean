/-- the words that stay -/
def gtb : List Cond := lw_tbl.filter goodWord
theorem gt {w : Cond} (h : w ∈ lw_tbl) (g : goodWord w = true) : w ∈ gtb := List.mem_filter.mpr ⟨h, g⟩
/-! ===== THE WORLD: all objects of both sides, at addresses that don't move; what they hold is one memory ===== -/
/-- kind, which converter, which of its kind -/
abbrev Oid : Type := Nat × Nat × Nat
/-- ints (booleans and bytes too), longs, doubles -/
abbrev Mem : Type := (Oid → Nat → Int32) × (Oid → Nat → Int64) × (Oid → Nat → UInt64)
/-- classes and slots, addresses, array classes, the addresses of the words, whether the law's own two arrays are there -/
abbrev GG : Type := va_G × (Oid → Nat) × (Nat → ClassId) × (Nat → Nat) × Bool
def gcl : List vw_C := [(RX1, TX1, 9), (RX2, TX2, 6), (RX3, TX3, 17), (RX4, TX4, 10), (RX5, TX5, 7), (RX6, TX6, 13), (RX7, TX7, 8), (RX8, TX8, 5), (RX9, TX9, 10), (RX11, TX11, 5), (RX12, TX12, 21)]
def nfO : Nat → Nat := fun k => match k with
  | 0 => 9 | 1 => 6 | 2 => 17 | 3 => 10 | 4 => 7 | 5 => 13 | 6 => 8 | 7 => 5 | 8 => 10 | 9 => 5 | _ => 21
/-- a field's kind: 0 int, 1 long, 2 a reference to an object, 3 a word -/
def fkO : Oid → Nat → Nat × Oid := fun o f => match o.1 with
  | 0 => (match f with | 8 => (1, o) | _ => (0, o))
  | 1 => (0, o)
  | 2 => (match f with
    | 0 => (2, (24, o.2.1, 0)) | 1 => (2, (5, o.2.1, 0)) | 2 => (2, (5, o.2.1, 1)) | 3 => (2, (25, o.2.1, 0)) | 4 => (2, (26, o.2.1, 0)) | 5 => (2, (1, o.2.1, 0))
    | 6 => (2, (4, o.2.1, 0)) | 7 => (2, (4, o.2.1, 1)) | 8 => (2, (4, o.2.1, 2)) | _ => (0, o))
  | 3 => (match f with | 0 => (2, (6, 0, 0)) | 1 => (2, (2, 2, 0)) | 2 => (2, (2, 0, 0)) | _ => (0, o))
  | 4 => (match f with | 0 => (2, (21, o.2)) | _ => (0, o))
  | 5 => (match f with | 0 => (2, (20, o.2)) | 12 => (1, o) | _ => (0, o))
  | 6 => (match f with | 0 => (2, (22, 0, 0)) | 3 => (1, o) | 7 => (3, o) | _ => (0, o))
  | 7 => (0, o)
  | 8 => (0, o)
  | 9 => (match f with
    | 0 => (2, (2, 1, 0)) | 1 => (2, (2, 5, 0)) | 2 => (2, (27, 0, 0)) | 3 => (2, (23, 0, 0)) | _ => (2, (3, 0, 0)))
  | _ => (match f with
    | 1 => (2, (30, 0, 0)) | 3 => (2, (31, 0, 0)) | 4 => (2, (32, 0, 0)) | 5 => (2, (33, 0, 0)) | 6 => (2, (34, 0, 0)) | 8 => (2, (35, 0, 0)) | 18 => (2, (36, 0, 0)) | 19 => (2, (37, 0, 0)) | 20 => (2, (38, 0, 0)) | _ => (0, o))
/-- an array's kind (0 int, 1 byte, 2 boolean, 3 long, 4 double, 5 .. references: of which kind) and its length -/
def akO : Oid → Nat × Nat := fun o => match o.1 with
  | 20 => (0, match o.2.2 with | 0 => 8 | _ => 4)
  | 21 => (0, match o.2.2 with | 0 => 64 | 1 => 256 | _ => 16)
  | 22 => (1, 900) | 23 => (2, 2) | 24 => (5, 8) | 25 => (6, 4) | 26 => (7, 3) | 27 => (8, 2)
  | 30 => (0, 900) | 31 => (0, 104) | 32 => (0, 2360) | 33 => (3, 50) | 34 => (2, 2) | 35 => (3, 25) | 36 => (2, 25) | 37 => (2, 8) | 38 => (2, 4)
  | 40 => (3, 1) | _ => (4, 1)
/-- the object at a place of an array of references -/
def arO : Oid → Nat → Oid := fun o i => match o.1 with
  | 24 => (0, o.2.1, i) | 25 => (7, o.2.1, i) | 26 => (8, o.2.1, i) | _ => (2, 3 + i, 0)
def okO (fl : Bool) : Oid → Prop := fun o => match o.1 with
  | 0 => o.2.1 < 6 ∧ o.2.2 < 8
  | 1 => o.2.1 < 6 ∧ o.2.2 < 1
  | 2 => o.2.1 < 6 ∧ o.2.2 < 1
  | 3 => o.2.1 < 1 ∧ o.2.2 < 1
  | 4 => o.2.1 < 6 ∧ o.2.2 < 3
  | 5 => o.2.1 < 6 ∧ o.2.2 < 2
  | 6 => o.2.1 < 1 ∧ o.2.2 < 1
  | 7 => o.2.1 < 6 ∧ o.2.2 < 4
  | 8 => o.2.1 < 6 ∧ o.2.2 < 3
  | 9 => o.2.1 < 1 ∧ o.2.2 < 1
  | 10 => o.2.1 < 1 ∧ o.2.2 < 1
  | 20 => o.2.1 < 6 ∧ o.2.2 < 2
  | 21 => o.2.1 < 6 ∧ o.2.2 < 3
  | 24 => o.2.1 < 6 ∧ o.2.2 < 1
  | 25 => o.2.1 < 6 ∧ o.2.2 < 1
  | 26 => o.2.1 < 6 ∧ o.2.2 < 1
  | 22 | 23 | 27 | 30 | 31 | 32 | 33 | 34 | 35 | 36 | 37 | 38 => o.2.1 < 1 ∧ o.2.2 < 1
  | 40 | 41 => o.2.1 < 1 ∧ o.2.2 < 1 ∧ fl = true
  | _ => False
def grid (k n m : Nat) : List Oid := (List.range n).flatMap fun c => (List.range m).map fun j => (k, c, j)
theorem grid_in {k n m c j : Nat} (h : c < n ∧ j < m) : (k, c, j) ∈ grid k n m := List.mem_flatMap.mpr ⟨c, List.mem_range.mpr h.1, List.mem_map.mpr ⟨j, List.mem_range.mpr h.2, rfl⟩⟩
def shapes : List (Nat × Nat × Nat) := [(0, 6, 8), (1, 6, 1), (2, 6, 1), (3, 1, 1), (4, 6, 3), (5, 6, 2), (6, 1, 1), (7, 6, 4), (8, 6, 3), (9, 1, 1), (10, 1, 1), (20, 6, 2), (21, 6, 3), (22, 1, 1), (23, 1, 1), (24, 6, 1), (25, 6, 1), (26, 6, 1), (27, 1, 1),
  (30, 1, 1), (31, 1, 1), (32, 1, 1), (33, 1, 1), (34, 1, 1), (35, 1, 1), (36, 1, 1), (37, 1, 1), (38, 1, 1)]
def objs (fl : Bool) : List Oid := (shapes ++ (if fl = true then [(40, 1, 1), (41, 1, 1)] else [] : List (Nat × Nat × Nat))).flatMap fun q => grid q.1 q.2.1 q.2.2
theorem okO_in {fl : Bool} {o : Oid} (h : okO fl o) : o ∈ objs fl := by
  obtain ⟨k, c, j⟩ := o
  have key : ∀ n m, (k, n, m) ∈ shapes → c < n ∧ j < m → (k, c, j) ∈ objs fl := fun n m h1 h2 => List.mem_flatMap.mpr ⟨_, List.mem_append_left _ h1, grid_in h2⟩
  have key2 : ∀ n m, (k, n, m) ∈ [(40, 1, 1), (41, 1, 1)] → fl = true → c < n ∧ j < m → (k, c, j) ∈ objs fl := fun n m h1 h0 h2 => List.mem_flatMap.mpr ⟨_, List.mem_append_right _ (by rw [if_pos h0]; exact h1), grid_in h2⟩
  unfold okO at h
  split at h
  all_goals first
    | exact absurd h id
    | (rename_i e; simp only at e; subst e; exact key _ _ (by decide) h)
    | (rename_i e; simp only at e; subst e; exact key2 _ _ (by decide) h.2.2 ⟨h.1, h.2.1⟩)
theorem objs_nodup (fl : Bool) : va_nd ((objs fl).map fun o => o.1 * 64 + o.2.1 * 8 + o.2.2) = true := by
  cases fl
  · decide +kernel
  · decide +kernel
theorem objs_inj {fl : Bool} {i j : Nat} {o : Oid} (hi : (objs fl)[i]? = some o) (hj : (objs fl)[j]? = some o) : i = j :=
  va_nd_inj _ (objs_nodup fl) i j (o.1 * 64 + o.2.1 * 8 + o.2.2) (by rw [List.getElem?_map, hi]; rfl) (by rw [List.getElem?_map, hj]; rfl)
def fvO (G : GG) (M : Mem) (o : Oid) (f : Nat) : Value := match fkO o f with
  | (0, _) => .int (M.1 o f)
  | (1, _) => .long (M.2.1 o f)
  | (2, q) => .ref (G.2.1 q)
  | _ => .ref (G.2.2.2.1 (M.1 o f).toNatClampNeg)
def acO (G : GG) (M : Mem) (o : Oid) (t : Nat) : (Nat → Int32) ⊕ (Nat → Int64) ⊕ (Nat → UInt32) ⊕ (Nat → UInt64) ⊕ (Nat → Option Nat) := match t with
  | 0 => .inl (fun i => M.1 o i)
  | 1 => .inl (fun i => M.1 o i)
  | 2 => .inl (fun i => M.1 o i)
  | 3 => .inr (.inl (fun i => M.2.1 o i))
  | 4 => .inr (.inr (.inr (.inl (fun i => M.2.2 o i))))
  | _ => .inr (.inr (.inr (.inr (fun i => some (G.2.1 (arO o i))))))
def ent (G : GG) (M : Mem) (o : Oid) : va_E :=
  if o.1 < 20 then .inr (o.1, (List.range (nfO o.1)).map (fvO G M o)) else .inl (G.2.2.1 (akO o).1, (akO o).2, acO G M o (akO o).1)
theorem fvO_congr {G : GG} {M M' : Mem} {o : Oid} {f : Nat} (h1 : M'.1 o f = M.1 o f) (h2 : M'.2.1 o f = M.2.1 o f) : fvO G M' o f = fvO G M o f := by
  unfold fvO
  rw [h1, h2]
theorem acO_congr {G : GG} {M M' : Mem} {o : Oid} {t : Nat} (h1 : M'.1 o = M.1 o) (h2 : M'.2.1 o = M.2.1 o) (h3 : M'.2.2 o = M.2.2 o) : acO G M' o t = acO G M o t := by
  unfold acO
  rw [h1, h2, h3]
theorem ent_congr {G : GG} {M M' : Mem} {o : Oid} (h1 : M'.1 o = M.1 o) (h2 : M'.2.1 o = M.2.1 o) (h3 : M'.2.2 o = M.2.2 o) : ent G M' o = ent G M o := by
  unfold ent
  rw [acO_congr h1 h2 h3]
  have h : fvO G M' o = fvO G M o := funext fun f => fvO_congr (by rw [h1]) (by rw [h2])
  rw [h]
def wl (G : GG) (M : Mem) : va_W := (objs G.2.2.2.2).map fun o => (G.2.1 o, ent G M o)
theorem wl_at {G : GG} {o : Oid} (h : okO G.2.2.2.2 o) : ∃ i : Nat, (objs G.2.2.2.2)[i]? = some o ∧ ∀ M : Mem, (wl G M)[i]? = some (G.2.1 o, ent G M o) := by
  obtain ⟨i, hi⟩ := List.getElem?_of_mem (okO_in h)
  exact ⟨i, hi, fun M => by rw [wl, List.getElem?_map, hi]; rfl⟩
theorem wl_set {G : GG} {M M' : Mem} {o : Oid} {i : Nat} (hi : (objs G.2.2.2.2)[i]? = some o) (h : ∀ q, q ≠ o → ent G M' q = ent G M q) : (wl G M).set i (G.2.1 o, ent G M' o) = wl G M' := by
  apply List.ext_getElem?
  intro j
  by_cases hj : i = j
  · subst hj
    have hl : i < (wl G M).length := by
      rw [wl, List.length_map]; exact (List.getElem?_eq_some_iff.mp hi).1
    rw [List.getElem?_set_self hl, wl, List.getElem?_map, hi]; rfl
  · rw [List.getElem?_set_ne hj, wl, wl, List.getElem?_map, List.getElem?_map]
    cases hq : (objs G.2.2.2.2)[j]? with
    | none => rfl
    | some q =>
      have : q ≠ o := fun e => hj (objs_inj hi (e ▸ hq))
      simp only [Option.map_some]
      rw [h q this]
/-- the addresses are apart -/
def Inj (G : GG) : Prop := ∀ (i j : Nat) (o q : Oid), (objs G.2.2.2.2)[i]? = some o → (objs G.2.2.2.2)[j]? = some q → G.2.1 o = G.2.1 q → i = j
def AA (G : GG) : Nat → Prop := fun q => ∃ o, o ∈ objs G.2.2.2.2 ∧ q = G.2.1 o
theorem wl_D {G : GG} {M : Mem} (h : Inj G) : va_D (AA G) (wl G M) := by
  have key : ∀ (k : Nat) (q : Nat × va_E), (wl G M)[k]? = some q → ∃ o, (objs G.2.2.2.2)[k]? = some o ∧ q.1 = G.2.1 o := by
    intro k q hk
    rw [wl, List.getElem?_map] at hk
    cases hq : (objs G.2.2.2.2)[k]? with
    | none => rw [hq] at hk; cases hk
    | some o => rw [hq] at hk; cases hk; exact ⟨o, rfl, rfl⟩
  refine ⟨fun i j p q hi hj hpq => ?_, fun k q hk => ?_⟩
  · obtain ⟨o, h1, h2⟩ := key i p hi
    obtain ⟨o', h3, h4⟩ := key j q hj
    exact h i j o o' h1 h3 (h2.symm.trans (hpq.trans h4))
  · obtain ⟨o, h1, h2⟩ := key k q hk
    exact ⟨o, List.mem_of_getElem? h1, h2⟩
def tyA : List FieldType := [.int, .byte, .boolean, .long, .double, .object RX1, .object RX8, .object RX9, .object RX3]
def tysG (G : GG) : List (ClassId × FieldType) := (List.range 9).map fun t => (G.2.2.1 t, tyA.getD t .int)
/-- the words of the setup text, as the machine has them at the start -/
def wNames : List String := ["CHANNEL", "REGULAR", "INJECTED", "GROUP", "CONTINUOUS", "AUTO", "OVER", "WINDOW", "TRIGGER", "QUEUE", "PACE", "SAMPLE", "TRIM", "BASE", "SLOPE", "PERIOD", "SHIFT", "KEEP", "LOW", "HIGH", "DELAY", "ON", "EVERY", "FROM", "NEWEST", "OTHER"]
def wLeast : List Int32 := [0, 0, 0, 1, 0, 0, 0, 0, 0, 1, 0, 1, -99, 0, -99, 1, 0, 0, 0, 0, 1, 0, 1, 0, 0, 0]
def wMost : List Int32 := [7, 7, 7, 8, 0, 0, 4, 2, 3, 16, 999, 99, 99, 4095, 99, 9999, 4, 0, 65535, 65535, 15, 7, 9999, 9999, 0, 0]
def wBit : List Int32 := (List.range 26).map fun i => Int32.ofNat (2 ^ i)
def wOrd : List Int32 := (List.range 26).map fun i => Int32.ofNat i
def wLet : List Int64 := [3491182764, 19503165490, 324610936996, 7945904, 122548619230899, 54927, 514226, 781652471, 22088490162, 18519717, 525413, 639025541, 674093, 67173, 20332037, 542713316, 20194516, 365744, 12791, 271592, 4370489, 494, 5969497, 215533, 475764340, 0]
def wSw : List Int32 := [1, 4, 5, 6, 7, 8, 9, 2, 3, 10, 11, 12, 13, 14, 15, 0, 0, 0, 0, 0, 0, 0, 0, 0, 0, 0]
def wFl : List (String × String × String × List Int32) := [("java/lang/Enum", "ordinal", "I", wOrd), (RX10, "bit", "I", wBit), (RX10, "least", "I", wLeast), (RX10, "most", "I", wMost)]
/-- the words: places 0 to 25; 26 the row of all, 27 the switch's numbers -/
def EN (w : Nat → Nat) (A : Nat → Prop) (U : State) (H : Heap) : Prop :=
  va_Ec RX10 RX10 "LConverterScanner$Word;" wNames wFl w A U H ∧ va_Ef 26 RX10 "letters" "J" (fun i => .long (wLet.getD i 0)) w A U H ∧
  va_Z RX10 "ALL" "[LConverterScanner$Word;" (.ref (w 26)) A U H ∧ va_T (.object RX10) (w 26) 26 (fun i => .ref (w i)) A U H ∧
  va_Z RX0 "$SwitchMap$ConverterScanner$Word" "[I" (.ref (w 27)) A U H ∧ va_T .int (w 27) 26 (fun i => .int (wSw.getD i 0)) A U H
theorem EN.moved {w : Nat → Nat} {A : Nat → Prop} {u U : State} {H : Heap} (hvm : u.vm.Alike U.vm) (h : EN w A u H) : EN w A U H :=
  ⟨va_Ec.moved hvm h.1, va_Ef.moved hvm h.2.1, va_Z.moved hvm h.2.2.1, va_T.moved hvm h.2.2.2.1, va_Z.moved hvm h.2.2.2.2.1, va_T.moved hvm h.2.2.2.2.2⟩
theorem EN.kept {w : Nat → Nat} {A : Nat → Prop} {U : State} {H H1 : Heap} (h : EN w A U H) (hq : ∀ a : Nat, a < H.size → ¬ A a → H1[a]? = H[a]?) : EN w A U H1 :=
  ⟨h.1.kept hq, h.2.1.kept hq, h.2.2.1.kept hq, h.2.2.2.1.kept hq, h.2.2.2.2.1.kept hq, h.2.2.2.2.2.kept hq⟩
theorem EN.narrow {w : Nat → Nat} {A B : Nat → Prop} {U : State} {H : Heap} (h : EN w A U H) (hAB : ∀ q, B q → A q) : EN w B U H :=
  ⟨h.1.narrow hAB, h.2.1.narrow hAB, h.2.2.1.narrow hAB, h.2.2.2.1.narrow hAB, h.2.2.2.2.1.narrow hAB, h.2.2.2.2.2.narrow hAB⟩
/-- what stands while a method runs -/
def Cx (G : GG) (A : Nat → Prop) (p : Program) (s : State) (m : MethodId) (args : Array Value) (meth : Method) (c : Code) (own : String) (cc : ByteArray) (nL : Nat) : Prop :=
  p.tables.exec = Jvm.exec ∧ c.code = cc ∧ c.maxLocals = nL ∧ s.vm.findClass own = some m.cls ∧ (∀ w ∈ gtb, w.before args s = true) ∧ meth.locks = false ∧ (∀ q, AA G q → A q) ∧ Inj G ∧ va_K G.1 gcl (tysG G) s ∧ EN G.2.2.2.1 A s s.heap
/-- the machine at a place: its locals, its stack, the memory -/
def T (G : GG) (A : Nat → Prop) (p : Program) (l : Launch) (e : Env) (R : Room) (s : State) (m : MethodId) (args : Array Value) (below : List Frame) (meth : Method) (c : Code) (nL ce sl : Nat) (Q : State → Prop) (pc : Nat) (lo : List (Nat × Value)) (st : List Value) (M : Mem) : Prop :=
  ∀ (H : Heap) (locs : List Loc) (ls : Array Slot), va_S A s.heap H locs → va_P G.1 gcl (wl G M) H → lv_has ls nL lo → W p l e R s m args below meth c H locs ce sl Q (F0 m pc ls st)
def uI (M : Mem) (o : Oid) (k : Nat) (x : Int32) : Mem := (fun q j => if q = o ∧ j = k then x else M.1 q j, M.2)
def uL (M : Mem) (o : Oid) (k : Nat) (x : Int64) : Mem := (M.1, fun q j => if q = o ∧ j = k then x else M.2.1 q j, M.2.2)
def uD (M : Mem) (o : Oid) (k : Nat) (x : UInt64) : Mem := (M.1, M.2.1, fun q j => if q = o ∧ j = k then x else M.2.2 q j)
/-- a local by its number -/
def lk : List (Nat × Value) → Nat → Option Value
  | [], _ => none
  | q :: t, i => if q.1 = i then some q.2 else lk t i
theorem lk_in : ∀ {l : List (Nat × Value)} {i : Nat} {v : Value}, lk l i = some v → (i, v) ∈ l
  | [], _, _, h => by cases h
  | q :: t, i, v, h => by
    unfold lk at h
    split at h
    · rename_i e
      cases h
      subst e
      exact List.mem_cons_self
    · exact List.mem_cons_of_mem _ (lk_in h)
theorem lk_at {ls : Array Slot} {nL : Nat} {l : List (Nat × Value)} {i : Nat} {v : Value} (h : lv_has ls nL l) (hk : lk l i = some v) : ls[i]? = some (.val v) := h.2.2 (i, v) (lk_in hk)
def lsub (l : List (Nat × Value)) : List (Nat × Value) → Prop
  | [] => True
  | q :: t => lk l q.1 = some q.2 ∧ lsub l t
theorem lsub_in {l : List (Nat × Value)} : ∀ {l' : List (Nat × Value)}, lsub l l' → ∀ q ∈ l', q ∈ l
  | [], _, q, h => by cases h
  | r :: t, hs, q, h => by
    rcases List.mem_cons.mp h with rfl | h
    · exact lk_in hs.1
    · exact lsub_in hs.2 q h
abbrev lset (i : Nat) (v : Value) (l : List (Nat × Value)) : List (Nat × Value) := (i, v) :: l.filter (fun q => !(q.1 == i) && !(q.1 + 1 == i && q.2.category == 2))
abbrev lset2 (i : Nat) (v : Value) (l : List (Nat × Value)) : List (Nat × Value) := (i, v) :: l.filter (fun q => !(q.1 == i) && (!(q.1 == i + 1) && !(q.1 + 1 == i && q.2.category == 2)))
/-- from a functional program's check, branch, call -/
theorem ck {c : Prop} [Decidable c] {α : Type} {F : Option α} {o : α} {P : Prop} (h : (if c then none else F) = some o) (k : ¬ c → F = some o → P) : P := by
  by_cases hc : c
  · rw [if_pos hc] at h; cases h
  · rw [if_neg hc] at h; exact k hc h
theorem bd {α β : Type} {X : Option α} {K : α → Option β} {o : β} {P : Prop} (h : X.bind K = some o) (k : ∀ a, X = some a → K a = some o → P) : P := by
  cases X with
  | none => cases h
  | some a => exact k a rfl h
