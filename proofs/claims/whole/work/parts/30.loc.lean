/-! ===== LOCALITY of the reference's functions: they read and write their own cells alone ===== -/
def mdl (o : Oid) : Bool := o.1 == 10 || (Nat.ble 30 o.1 && Nat.ble o.1 38)
/-- the reference's cells of M, all others of C -/
def mix (C M : Mem) : Mem := (fun o k => if mdl o = true then M.1 o k else C.1 o k, fun o k => if mdl o = true then M.2.1 o k else C.2.1 o k, fun o k => if mdl o = true then M.2.2 o k else C.2.2 o k)
def mq {ρ : Type} (C : Mem) (o : Option (ρ × Mem)) : Option (ρ × Mem) := match o with
  | none => none
  | some q => some (q.1, mix C q.2)
theorem mq_none {ρ : Type} {C : Mem} : mq (ρ := ρ) C none = none := rfl
theorem mq_some {ρ : Type} {C M : Mem} {r : ρ} : mq C (some (r, M)) = some (r, mix C M) := Eq.trans rfl rfl
theorem mq_ite {ρ : Type} {C : Mem} {c : Prop} [Decidable c] {a b : Option (ρ × Mem)} : mq C (if c then a else b) = if c then mq C a else mq C b := by split <;> rfl
theorem mq_bnd {ρ σ : Type} {C : Mem} {o : Option (ρ × Mem)} {k : ρ → Mem → Option (σ × Mem)} : mq C (bnd o k) = bnd o (fun r M => mq C (k r M)) := by cases o <;> rfl
theorem bnd_mq {ρ σ : Type} {C : Mem} {o : Option (ρ × Mem)} {k : ρ → Mem → Option (σ × Mem)} : bnd (mq C o) k = bnd o (fun r M => k r (mix C M)) := by cases o <;> rfl
theorem mq_nm {α ρ : Type} {C : Mem} {v : α} {k : α → Option (ρ × Mem)} : mq C (nm v k) = nm v (fun x => mq C (k x)) := Eq.trans rfl rfl
theorem uI_mix {C M : Mem} {o : Oid} {k : Nat} {x : Int32} (h : mdl o = true) : uI (mix C M) o k x = mix C (uI M o k x) := by
  unfold uI mix
  refine Prod.ext (funext fun q => funext fun j => ?_) rfl
  by_cases hq : q = o
  · subst hq; simp [h]
  · simp [hq]
theorem uL_mix {C M : Mem} {o : Oid} {k : Nat} {x : Int64} (h : mdl o = true) : uL (mix C M) o k x = mix C (uL M o k x) := by
  unfold uL mix
  refine Prod.ext rfl (Prod.ext (funext fun q => funext fun j => ?_) rfl)
  by_cases hq : q = o
  · subst hq; simp [h]
  · simp [hq]
theorem nm_uI {ρ : Type} {C M : Mem} {o : Oid} {k : Nat} {x : Int32} {f : Mem → Option (ρ × Mem)} (h : mdl o = true) : nm (uI (mix C M) o k x) f = nm (uI M o k x) (fun N => f (mix C N)) := congrArg f (uI_mix h)
theorem nm_uL {ρ : Type} {C M : Mem} {o : Oid} {k : Nat} {x : Int64} {f : Mem → Option (ρ × Mem)} (h : mdl o = true) : nm (uL (mix C M) o k x) f = nm (uL M o k x) (fun N => f (mix C N)) := congrArg f (uL_mix h)

theorem mi_10 {C M : Mem} {k : Nat} : (mix C M).1 (10, 0, 0) k = M.1 (10, 0, 0) k := Eq.trans rfl rfl
theorem ni_10 {ρ : Type} {C M : Mem} {k : Nat} {x : Int32} {f : Mem → Option (ρ × Mem)} : nm (uI (mix C M) (10, 0, 0) k x) f = nm (uI M (10, 0, 0) k x) (fun N => f (mix C N)) := nm_uI rfl
theorem mi_30 {C M : Mem} {k : Nat} : (mix C M).1 (30, 0, 0) k = M.1 (30, 0, 0) k := Eq.trans rfl rfl
theorem ni_30 {ρ : Type} {C M : Mem} {k : Nat} {x : Int32} {f : Mem → Option (ρ × Mem)} : nm (uI (mix C M) (30, 0, 0) k x) f = nm (uI M (30, 0, 0) k x) (fun N => f (mix C N)) := nm_uI rfl
theorem mi_31 {C M : Mem} {k : Nat} : (mix C M).1 (31, 0, 0) k = M.1 (31, 0, 0) k := Eq.trans rfl rfl
theorem ni_31 {ρ : Type} {C M : Mem} {k : Nat} {x : Int32} {f : Mem → Option (ρ × Mem)} : nm (uI (mix C M) (31, 0, 0) k x) f = nm (uI M (31, 0, 0) k x) (fun N => f (mix C N)) := nm_uI rfl
theorem mi_32 {C M : Mem} {k : Nat} : (mix C M).1 (32, 0, 0) k = M.1 (32, 0, 0) k := Eq.trans rfl rfl
theorem ni_32 {ρ : Type} {C M : Mem} {k : Nat} {x : Int32} {f : Mem → Option (ρ × Mem)} : nm (uI (mix C M) (32, 0, 0) k x) f = nm (uI M (32, 0, 0) k x) (fun N => f (mix C N)) := nm_uI rfl
theorem mi_33 {C M : Mem} {k : Nat} : (mix C M).1 (33, 0, 0) k = M.1 (33, 0, 0) k := Eq.trans rfl rfl
theorem ml_33 {C M : Mem} {k : Nat} : (mix C M).2.1 (33, 0, 0) k = M.2.1 (33, 0, 0) k := Eq.trans rfl rfl
theorem nl_33 {ρ : Type} {C M : Mem} {k : Nat} {x : Int64} {f : Mem → Option (ρ × Mem)} : nm (uL (mix C M) (33, 0, 0) k x) f = nm (uL M (33, 0, 0) k x) (fun N => f (mix C N)) := nm_uL rfl
theorem mi_34 {C M : Mem} {k : Nat} : (mix C M).1 (34, 0, 0) k = M.1 (34, 0, 0) k := Eq.trans rfl rfl
theorem ni_34 {ρ : Type} {C M : Mem} {k : Nat} {x : Int32} {f : Mem → Option (ρ × Mem)} : nm (uI (mix C M) (34, 0, 0) k x) f = nm (uI M (34, 0, 0) k x) (fun N => f (mix C N)) := nm_uI rfl
theorem mi_35 {C M : Mem} {k : Nat} : (mix C M).1 (35, 0, 0) k = M.1 (35, 0, 0) k := Eq.trans rfl rfl
theorem ml_35 {C M : Mem} {k : Nat} : (mix C M).2.1 (35, 0, 0) k = M.2.1 (35, 0, 0) k := Eq.trans rfl rfl
theorem nl_35 {ρ : Type} {C M : Mem} {k : Nat} {x : Int64} {f : Mem → Option (ρ × Mem)} : nm (uL (mix C M) (35, 0, 0) k x) f = nm (uL M (35, 0, 0) k x) (fun N => f (mix C N)) := nm_uL rfl
theorem mi_36 {C M : Mem} {k : Nat} : (mix C M).1 (36, 0, 0) k = M.1 (36, 0, 0) k := Eq.trans rfl rfl
theorem ni_36 {ρ : Type} {C M : Mem} {k : Nat} {x : Int32} {f : Mem → Option (ρ × Mem)} : nm (uI (mix C M) (36, 0, 0) k x) f = nm (uI M (36, 0, 0) k x) (fun N => f (mix C N)) := nm_uI rfl
theorem mi_37 {C M : Mem} {k : Nat} : (mix C M).1 (37, 0, 0) k = M.1 (37, 0, 0) k := Eq.trans rfl rfl
theorem ni_37 {ρ : Type} {C M : Mem} {k : Nat} {x : Int32} {f : Mem → Option (ρ × Mem)} : nm (uI (mix C M) (37, 0, 0) k x) f = nm (uI M (37, 0, 0) k x) (fun N => f (mix C N)) := nm_uI rfl
theorem mi_38 {C M : Mem} {k : Nat} : (mix C M).1 (38, 0, 0) k = M.1 (38, 0, 0) k := Eq.trans rfl rfl
theorem ni_38 {ρ : Type} {C M : Mem} {k : Nat} {x : Int32} {f : Mem → Option (ρ × Mem)} : nm (uI (mix C M) (38, 0, 0) k x) f = nm (uI M (38, 0, 0) k x) (fun N => f (mix C N)) := nm_uI rfl
theorem l_X12_thrown {C : Mem} {M : Mem} : f_X12_thrown (mix C M) = mq C (f_X12_thrown   M) := by
  unfold f_X12_thrown
  simp (maxSteps := 4000000) (disch := assumption) only [mq_none, mq_some, mq_ite, mq_bnd, bnd_mq, mq_nm, mi_10, ni_10, mi_30, ni_30, mi_31, ni_31, mi_32, ni_32, mi_33, ml_33, nl_33, mi_34, ni_34, mi_35, ml_35, nl_35, mi_36, ni_36, mi_37, ni_37, mi_38, ni_38]
  try rfl
theorem l_X12_inRange_14 {C : Mem} {M : Mem} : f_X12_inRange_14 (mix C M) = mq C (f_X12_inRange_14   M) := by
  unfold f_X12_inRange_14
  simp (maxSteps := 4000000) (disch := assumption) only [mq_none, mq_some, mq_ite, mq_bnd, bnd_mq, mq_nm, mi_10, ni_10, mi_30, ni_30, mi_31, ni_31, mi_32, ni_32, mi_33, ml_33, nl_33, mi_34, ni_34, mi_35, ml_35, nl_35, mi_36, ni_36, mi_37, ni_37, mi_38, ni_38]
  try rfl
theorem l_X12_inRange {C : Mem} {x0 : Int32} {x1 : Int32} {x2 : Int32} {M : Mem} : f_X12_inRange  x0 x1 x2 (mix C M) = mq C (f_X12_inRange  x0 x1 x2 M) := by
  unfold f_X12_inRange
  simp (maxSteps := 4000000) (disch := assumption) only [mq_none, mq_some, mq_ite, mq_bnd, bnd_mq, mq_nm, mi_10, ni_10, mi_30, ni_30, mi_31, ni_31, mi_32, ni_32, mi_33, ml_33, nl_33, mi_34, ni_34, mi_35, ml_35, nl_35, mi_36, ni_36, mi_37, ni_37, mi_38, ni_38, l_X12_inRange_14]
  try rfl
theorem l_X12_fails_26 {C : Mem} {xs0 : Int32} {M : Mem} : f_X12_fails_26  xs0 (mix C M) = mq C (f_X12_fails_26  xs0 M) := by
  unfold f_X12_fails_26
  simp (maxSteps := 4000000) (disch := assumption) only [mq_none, mq_some, mq_ite, mq_bnd, bnd_mq, mq_nm, mi_10, ni_10, mi_30, ni_30, mi_31, ni_31, mi_32, ni_32, mi_33, ml_33, nl_33, mi_34, ni_34, mi_35, ml_35, nl_35, mi_36, ni_36, mi_37, ni_37, mi_38, ni_38]
  try rfl
theorem l_X12_fails {C : Mem} {x1 : Int32} {x2 : Int32} {x3 : Int32} {M : Mem} : f_X12_fails  x1 x2 x3 (mix C M) = mq C (f_X12_fails  x1 x2 x3 M) := by
  unfold f_X12_fails
  simp (maxSteps := 4000000) (disch := assumption) only [mq_none, mq_some, mq_ite, mq_bnd, bnd_mq, mq_nm, mi_10, ni_10, mi_30, ni_30, mi_31, ni_31, mi_32, ni_32, mi_33, ml_33, nl_33, mi_34, ni_34, mi_35, ml_35, nl_35, mi_36, ni_36, mi_37, ni_37, mi_38, ni_38, l_X12_fails_26]
  try rfl
theorem l_X12_lesser {C : Mem} {x0 : Int32} {x1 : Int32} {M : Mem} : f_X12_lesser  x0 x1 (mix C M) = mq C (f_X12_lesser  x0 x1 M) := by
  unfold f_X12_lesser
  simp (maxSteps := 4000000) (disch := assumption) only [mq_none, mq_some, mq_ite, mq_bnd, bnd_mq, mq_nm, mi_10, ni_10, mi_30, ni_30, mi_31, ni_31, mi_32, ni_32, mi_33, ml_33, nl_33, mi_34, ni_34, mi_35, ml_35, nl_35, mi_36, ni_36, mi_37, ni_37, mi_38, ni_38]
  try rfl
theorem l_X12_appendWord_3 {C : Mem} : ∀ (n : Nat) (x1 : Int32) (x2 : Int32) (M : Mem), f_X12_appendWord_3  n x1 x2 (mix C M) = mq C (f_X12_appendWord_3  n x1 x2 M) := by
  intro n
  induction n with
  | zero => intro x1 x2 M; rfl
  | succ n ih =>
    intro x1 x2 M
    unfold f_X12_appendWord_3
    simp (maxSteps := 4000000) (disch := assumption) only [mq_none, mq_some, mq_ite, mq_bnd, bnd_mq, mq_nm, mi_10, ni_10, mi_30, ni_30, mi_31, ni_31, mi_32, ni_32, mi_33, ml_33, nl_33, mi_34, ni_34, mi_35, ml_35, nl_35, mi_36, ni_36, mi_37, ni_37, mi_38, ni_38, ih]
    try rfl
theorem l_X12_appendWord {C : Mem} {x1 : Int32} {M : Mem} : f_X12_appendWord  x1 (mix C M) = mq C (f_X12_appendWord  x1 M) := by
  unfold f_X12_appendWord
  simp (maxSteps := 4000000) (disch := assumption) only [mq_none, mq_some, mq_ite, mq_bnd, bnd_mq, mq_nm, mi_10, ni_10, mi_30, ni_30, mi_31, ni_31, mi_32, ni_32, mi_33, ml_33, nl_33, mi_34, ni_34, mi_35, ml_35, nl_35, mi_36, ni_36, mi_37, ni_37, mi_38, ni_38, l_X12_appendWord_3]
  try rfl
theorem l_X12_append_19 {C : Mem} {x1 : Int32} {x2 : Int32} {x3 : Int32} {x4 : Int32} {x5 : Int32} {xs0 : Int32} {M : Mem} : f_X12_append_19  x1 x2 x3 x4 x5 xs0 (mix C M) = mq C (f_X12_append_19  x1 x2 x3 x4 x5 xs0 M) := by
  unfold f_X12_append_19
  simp (maxSteps := 4000000) (disch := assumption) only [mq_none, mq_some, mq_ite, mq_bnd, bnd_mq, mq_nm, mi_10, ni_10, mi_30, ni_30, mi_31, ni_31, mi_32, ni_32, mi_33, ml_33, nl_33, mi_34, ni_34, mi_35, ml_35, nl_35, mi_36, ni_36, mi_37, ni_37, mi_38, ni_38, l_X12_appendWord, l_X12_fails]
  try rfl
theorem l_X12_append {C : Mem} {x1 : Int32} {x2 : Int32} {x3 : Int32} {x4 : Int32} {x5 : Int32} {M : Mem} : f_X12_append  x1 x2 x3 x4 x5 (mix C M) = mq C (f_X12_append  x1 x2 x3 x4 x5 M) := by
  unfold f_X12_append
  simp (maxSteps := 4000000) (disch := assumption) only [mq_none, mq_some, mq_ite, mq_bnd, bnd_mq, mq_nm, mi_10, ni_10, mi_30, ni_30, mi_31, ni_31, mi_32, ni_32, mi_33, ml_33, nl_33, mi_34, ni_34, mi_35, ml_35, nl_35, mi_36, ni_36, mi_37, ni_37, mi_38, ni_38, l_X12_append_19]
  try rfl
theorem l_X12_truncate_18 {C : Mem} {x1 : Int32} {xs0 : Int32} {M : Mem} : f_X12_truncate_18  x1 xs0 (mix C M) = mq C (f_X12_truncate_18  x1 xs0 M) := by
  unfold f_X12_truncate_18
  simp (maxSteps := 4000000) (disch := assumption) only [mq_none, mq_some, mq_ite, mq_bnd, bnd_mq, mq_nm, mi_10, ni_10, mi_30, ni_30, mi_31, ni_31, mi_32, ni_32, mi_33, ml_33, nl_33, mi_34, ni_34, mi_35, ml_35, nl_35, mi_36, ni_36, mi_37, ni_37, mi_38, ni_38, l_X12_fails]
  try rfl
theorem l_X12_truncate {C : Mem} {x1 : Int32} {M : Mem} : f_X12_truncate  x1 (mix C M) = mq C (f_X12_truncate  x1 M) := by
  unfold f_X12_truncate
  simp (maxSteps := 4000000) (disch := assumption) only [mq_none, mq_some, mq_ite, mq_bnd, bnd_mq, mq_nm, mi_10, ni_10, mi_30, ni_30, mi_31, ni_31, mi_32, ni_32, mi_33, ml_33, nl_33, mi_34, ni_34, mi_35, ml_35, nl_35, mi_36, ni_36, mi_37, ni_37, mi_38, ni_38, l_X12_inRange, l_X12_truncate_18]
  try rfl
theorem l_X12_entries {C : Mem} {x1 : Int32} {M : Mem} : f_X12_entries  x1 (mix C M) = mq C (f_X12_entries  x1 M) := by
  unfold f_X12_entries
  simp (maxSteps := 4000000) (disch := assumption) only [mq_none, mq_some, mq_ite, mq_bnd, bnd_mq, mq_nm, mi_10, ni_10, mi_30, ni_30, mi_31, ni_31, mi_32, ni_32, mi_33, ml_33, nl_33, mi_34, ni_34, mi_35, ml_35, nl_35, mi_36, ni_36, mi_37, ni_37, mi_38, ni_38]
  try rfl
theorem l_X12_entryOf {C : Mem} {x1 : Int32} {x2 : Int32} {M : Mem} : f_X12_entryOf  x1 x2 (mix C M) = mq C (f_X12_entryOf  x1 x2 M) := by
  unfold f_X12_entryOf
  simp (maxSteps := 4000000) (disch := assumption) only [mq_none, mq_some, mq_ite, mq_bnd, bnd_mq, mq_nm, mi_10, ni_10, mi_30, ni_30, mi_31, ni_31, mi_32, ni_32, mi_33, ml_33, nl_33, mi_34, ni_34, mi_35, ml_35, nl_35, mi_36, ni_36, mi_37, ni_37, mi_38, ni_38]
  try rfl
theorem l_X12_its {C : Mem} {x1 : Int32} {M : Mem} : f_X12_its  x1 (mix C M) = mq C (f_X12_its  x1 M) := by
  unfold f_X12_its
  simp (maxSteps := 4000000) (disch := assumption) only [mq_none, mq_some, mq_ite, mq_bnd, bnd_mq, mq_nm, mi_10, ni_10, mi_30, ni_30, mi_31, ni_31, mi_32, ni_32, mi_33, ml_33, nl_33, mi_34, ni_34, mi_35, ml_35, nl_35, mi_36, ni_36, mi_37, ni_37, mi_38, ni_38]
  try rfl
theorem l_X12_puts {C : Mem} {x1 : Int32} {x2 : Int32} {M : Mem} : f_X12_puts  x1 x2 (mix C M) = mq C (f_X12_puts  x1 x2 M) := by
  unfold f_X12_puts
  simp (maxSteps := 4000000) (disch := assumption) only [mq_none, mq_some, mq_ite, mq_bnd, bnd_mq, mq_nm, mi_10, ni_10, mi_30, ni_30, mi_31, ni_31, mi_32, ni_32, mi_33, ml_33, nl_33, mi_34, ni_34, mi_35, ml_35, nl_35, mi_36, ni_36, mi_37, ni_37, mi_38, ni_38]
  try rfl
theorem l_X12_adds {C : Mem} {x1 : Int32} {x2 : Int32} {M : Mem} : f_X12_adds  x1 x2 (mix C M) = mq C (f_X12_adds  x1 x2 M) := by
  unfold f_X12_adds
  simp (maxSteps := 4000000) (disch := assumption) only [mq_none, mq_some, mq_ite, mq_bnd, bnd_mq, mq_nm, mi_10, ni_10, mi_30, ni_30, mi_31, ni_31, mi_32, ni_32, mi_33, ml_33, nl_33, mi_34, ni_34, mi_35, ml_35, nl_35, mi_36, ni_36, mi_37, ni_37, mi_38, ni_38]
  try rfl
theorem l_X12_seq {C : Mem} {x0 : Int32} {x1 : Int32} {M : Mem} : f_X12_seq  x0 x1 (mix C M) = mq C (f_X12_seq  x0 x1 M) := by
  unfold f_X12_seq
  simp (maxSteps := 4000000) (disch := assumption) only [mq_none, mq_some, mq_ite, mq_bnd, bnd_mq, mq_nm, mi_10, ni_10, mi_30, ni_30, mi_31, ni_31, mi_32, ni_32, mi_33, ml_33, nl_33, mi_34, ni_34, mi_35, ml_35, nl_35, mi_36, ni_36, mi_37, ni_37, mi_38, ni_38]
  try rfl
theorem l_X12_chan {C : Mem} {x0 : Int32} {x1 : Int32} {M : Mem} : f_X12_chan  x0 x1 (mix C M) = mq C (f_X12_chan  x0 x1 M) := by
  unfold f_X12_chan
  simp (maxSteps := 4000000) (disch := assumption) only [mq_none, mq_some, mq_ite, mq_bnd, bnd_mq, mq_nm, mi_10, ni_10, mi_30, ni_30, mi_31, ni_31, mi_32, ni_32, mi_33, ml_33, nl_33, mi_34, ni_34, mi_35, ml_35, nl_35, mi_36, ni_36, mi_37, ni_37, mi_38, ni_38]
  try rfl
theorem l_X12_trig {C : Mem} {x0 : Int32} {x1 : Int32} {M : Mem} : f_X12_trig  x0 x1 (mix C M) = mq C (f_X12_trig  x0 x1 M) := by
  unfold f_X12_trig
  simp (maxSteps := 4000000) (disch := assumption) only [mq_none, mq_some, mq_ite, mq_bnd, bnd_mq, mq_nm, mi_10, ni_10, mi_30, ni_30, mi_31, ni_31, mi_32, ni_32, mi_33, ml_33, nl_33, mi_34, ni_34, mi_35, ml_35, nl_35, mi_36, ni_36, mi_37, ni_37, mi_38, ni_38]
  try rfl
theorem l_X12_win {C : Mem} {x0 : Int32} {x1 : Int32} {M : Mem} : f_X12_win  x0 x1 (mix C M) = mq C (f_X12_win  x0 x1 M) := by
  unfold f_X12_win
  simp (maxSteps := 4000000) (disch := assumption) only [mq_none, mq_some, mq_ite, mq_bnd, bnd_mq, mq_nm, mi_10, ni_10, mi_30, ni_30, mi_31, ni_31, mi_32, ni_32, mi_33, ml_33, nl_33, mi_34, ni_34, mi_35, ml_35, nl_35, mi_36, ni_36, mi_37, ni_37, mi_38, ni_38]
  try rfl
theorem l_X12_copyBlock_41 {C : Mem} : ∀ (n : Nat) (x1 : Int32) (x2 : Int32) (x3 : Int32) (M : Mem), f_X12_copyBlock_41  n x1 x2 x3 (mix C M) = mq C (f_X12_copyBlock_41  n x1 x2 x3 M) := by
  intro n
  induction n with
  | zero => intro x1 x2 x3 M; rfl
  | succ n ih =>
    intro x1 x2 x3 M
    unfold f_X12_copyBlock_41
    simp (maxSteps := 4000000) (disch := assumption) only [mq_none, mq_some, mq_ite, mq_bnd, bnd_mq, mq_nm, mi_10, ni_10, mi_30, ni_30, mi_31, ni_31, mi_32, ni_32, mi_33, ml_33, nl_33, mi_34, ni_34, mi_35, ml_35, nl_35, mi_36, ni_36, mi_37, ni_37, mi_38, ni_38, ih]
    try rfl
theorem l_X12_copyBlock_2 {C : Mem} : ∀ (n : Nat) (x1 : Int32) (x2 : Int32) (x3 : Int32) (M : Mem), f_X12_copyBlock_2  n x1 x2 x3 (mix C M) = mq C (f_X12_copyBlock_2  n x1 x2 x3 M) := by
  intro n
  induction n with
  | zero => intro x1 x2 x3 M; rfl
  | succ n ih =>
    intro x1 x2 x3 M
    unfold f_X12_copyBlock_2
    simp (maxSteps := 4000000) (disch := assumption) only [mq_none, mq_some, mq_ite, mq_bnd, bnd_mq, mq_nm, mi_10, ni_10, mi_30, ni_30, mi_31, ni_31, mi_32, ni_32, mi_33, ml_33, nl_33, mi_34, ni_34, mi_35, ml_35, nl_35, mi_36, ni_36, mi_37, ni_37, mi_38, ni_38, l_X12_copyBlock_41, ih]
    try rfl
theorem l_X12_copyBlock {C : Mem} {x1 : Int32} {x2 : Int32} {M : Mem} : f_X12_copyBlock  x1 x2 (mix C M) = mq C (f_X12_copyBlock  x1 x2 M) := by
  unfold f_X12_copyBlock
  simp (maxSteps := 4000000) (disch := assumption) only [mq_none, mq_some, mq_ite, mq_bnd, bnd_mq, mq_nm, mi_10, ni_10, mi_30, ni_30, mi_31, ni_31, mi_32, ni_32, mi_33, ml_33, nl_33, mi_34, ni_34, mi_35, ml_35, nl_35, mi_36, ni_36, mi_37, ni_37, mi_38, ni_38, l_X12_copyBlock_2]
  try rfl
theorem l_X12_first_87 {C : Mem} : ∀ (n : Nat) (x2 : Int32) (M : Mem), f_X12_first_87  n x2 (mix C M) = mq C (f_X12_first_87  n x2 M) := by
  intro n
  induction n with
  | zero => intro x2 M; rfl
  | succ n ih =>
    intro x2 M
    unfold f_X12_first_87
    simp (maxSteps := 4000000) (disch := assumption) only [mq_none, mq_some, mq_ite, mq_bnd, bnd_mq, mq_nm, mi_10, ni_10, mi_30, ni_30, mi_31, ni_31, mi_32, ni_32, mi_33, ml_33, nl_33, mi_34, ni_34, mi_35, ml_35, nl_35, mi_36, ni_36, mi_37, ni_37, mi_38, ni_38, l_X12_chan, l_X12_puts, ih]
    try rfl
theorem l_X12_first_54 {C : Mem} : ∀ (n : Nat) (x2 : Int32) (M : Mem), f_X12_first_54  n x2 (mix C M) = mq C (f_X12_first_54  n x2 M) := by
  intro n
  induction n with
  | zero => intro x2 M; rfl
  | succ n ih =>
    intro x2 M
    unfold f_X12_first_54
    simp (maxSteps := 4000000) (disch := assumption) only [mq_none, mq_some, mq_ite, mq_bnd, bnd_mq, mq_nm, mi_10, ni_10, mi_30, ni_30, mi_31, ni_31, mi_32, ni_32, mi_33, ml_33, nl_33, mi_34, ni_34, mi_35, ml_35, nl_35, mi_36, ni_36, mi_37, ni_37, mi_38, ni_38, l_X12_first_87, l_X12_puts, l_X12_seq, ih]
    try rfl
theorem l_X12_first_28 {C : Mem} : ∀ (n : Nat) (x1 : Int32) (x2 : Int32) (M : Mem), f_X12_first_28  n x1 x2 (mix C M) = mq C (f_X12_first_28  n x1 x2 M) := by
  intro n
  induction n with
  | zero => intro x1 x2 M; rfl
  | succ n ih =>
    intro x1 x2 M
    unfold f_X12_first_28
    simp (maxSteps := 4000000) (disch := assumption) only [mq_none, mq_some, mq_ite, mq_bnd, bnd_mq, mq_nm, mi_10, ni_10, mi_30, ni_30, mi_31, ni_31, mi_32, ni_32, mi_33, ml_33, nl_33, mi_34, ni_34, mi_35, ml_35, nl_35, mi_36, ni_36, mi_37, ni_37, mi_38, ni_38, l_X12_first_54, ih]
    try rfl
theorem l_X12_first_7 {C : Mem} : ∀ (n : Nat) (x1 : Int32) (x2 : Int32) (M : Mem), f_X12_first_7  n x1 x2 (mix C M) = mq C (f_X12_first_7  n x1 x2 M) := by
  intro n
  induction n with
  | zero => intro x1 x2 M; rfl
  | succ n ih =>
    intro x1 x2 M
    unfold f_X12_first_7
    simp (maxSteps := 4000000) (disch := assumption) only [mq_none, mq_some, mq_ite, mq_bnd, bnd_mq, mq_nm, mi_10, ni_10, mi_30, ni_30, mi_31, ni_31, mi_32, ni_32, mi_33, ml_33, nl_33, mi_34, ni_34, mi_35, ml_35, nl_35, mi_36, ni_36, mi_37, ni_37, mi_38, ni_38, l_X12_first_28, l_X12_puts, ih]
    try rfl
theorem l_X12_first {C : Mem} {x1 : Int32} {M : Mem} : f_X12_first  x1 (mix C M) = mq C (f_X12_first  x1 M) := by
  unfold f_X12_first
  simp (maxSteps := 4000000) (disch := assumption) only [mq_none, mq_some, mq_ite, mq_bnd, bnd_mq, mq_nm, mi_10, ni_10, mi_30, ni_30, mi_31, ni_31, mi_32, ni_32, mi_33, ml_33, nl_33, mi_34, ni_34, mi_35, ml_35, nl_35, mi_36, ni_36, mi_37, ni_37, mi_38, ni_38, l_X12_first_7]
  try rfl
theorem l_X12_firstSettings_2 {C : Mem} : ∀ (n : Nat) (x1 : Int32) (x2 : Int32) (M : Mem), f_X12_firstSettings_2  n x1 x2 (mix C M) = mq C (f_X12_firstSettings_2  n x1 x2 M) := by
  intro n
  induction n with
  | zero => intro x1 x2 M; rfl
  | succ n ih =>
    intro x1 x2 M
    unfold f_X12_firstSettings_2
    simp (maxSteps := 4000000) (disch := assumption) only [mq_none, mq_some, mq_ite, mq_bnd, bnd_mq, mq_nm, mi_10, ni_10, mi_30, ni_30, mi_31, ni_31, mi_32, ni_32, mi_33, ml_33, nl_33, mi_34, ni_34, mi_35, ml_35, nl_35, mi_36, ni_36, mi_37, ni_37, mi_38, ni_38, ih]
    try rfl
theorem l_X12_firstSettings {C : Mem} {x1 : Int32} {M : Mem} : f_X12_firstSettings  x1 (mix C M) = mq C (f_X12_firstSettings  x1 M) := by
  unfold f_X12_firstSettings
  simp (maxSteps := 4000000) (disch := assumption) only [mq_none, mq_some, mq_ite, mq_bnd, bnd_mq, mq_nm, mi_10, ni_10, mi_30, ni_30, mi_31, ni_31, mi_32, ni_32, mi_33, ml_33, nl_33, mi_34, ni_34, mi_35, ml_35, nl_35, mi_36, ni_36, mi_37, ni_37, mi_38, ni_38, l_X12_firstSettings_2]
  try rfl
theorem l_X12_signalOf {C : Mem} {x1 : Int32} {x2 : Int32} {M : Mem} : f_X12_signalOf  x1 x2 (mix C M) = mq C (f_X12_signalOf  x1 x2 M) := by
  unfold f_X12_signalOf
  simp (maxSteps := 4000000) (disch := assumption) only [mq_none, mq_some, mq_ite, mq_bnd, bnd_mq, mq_nm, mi_10, ni_10, mi_30, ni_30, mi_31, ni_31, mi_32, ni_32, mi_33, ml_33, nl_33, mi_34, ni_34, mi_35, ml_35, nl_35, mi_36, ni_36, mi_37, ni_37, mi_38, ni_38, l_X12_chan, l_X12_its, l_X12_lesser]
  try rfl
theorem l_X12_isChannel {C : Mem} {x1 : Int32} {M : Mem} : f_X12_isChannel  x1 (mix C M) = mq C (f_X12_isChannel  x1 M) := by
  unfold f_X12_isChannel
  simp (maxSteps := 4000000) (disch := assumption) only [mq_none, mq_some, mq_ite, mq_bnd, bnd_mq, mq_nm, mi_10, ni_10, mi_30, ni_30, mi_31, ni_31, mi_32, ni_32, mi_33, ml_33, nl_33, mi_34, ni_34, mi_35, ml_35, nl_35, mi_36, ni_36, mi_37, ni_37, mi_38, ni_38, l_X12_inRange]
  try rfl
theorem l_X12_breakOff {C : Mem} {M : Mem} : f_X12_breakOff (mix C M) = mq C (f_X12_breakOff   M) := by
  unfold f_X12_breakOff
  simp (maxSteps := 4000000) (disch := assumption) only [mq_none, mq_some, mq_ite, mq_bnd, bnd_mq, mq_nm, mi_10, ni_10, mi_30, ni_30, mi_31, ni_31, mi_32, ni_32, mi_33, ml_33, nl_33, mi_34, ni_34, mi_35, ml_35, nl_35, mi_36, ni_36, mi_37, ni_37, mi_38, ni_38, l_X12_adds, l_X12_puts]
  try rfl
theorem l_X12_clearResult {C : Mem} {x1 : Int32} {M : Mem} : f_X12_clearResult  x1 (mix C M) = mq C (f_X12_clearResult  x1 M) := by
  unfold f_X12_clearResult
  simp (maxSteps := 4000000) (disch := assumption) only [mq_none, mq_some, mq_ite, mq_bnd, bnd_mq, mq_nm, mi_10, ni_10, mi_30, ni_30, mi_31, ni_31, mi_32, ni_32, mi_33, ml_33, nl_33, mi_34, ni_34, mi_35, ml_35, nl_35, mi_36, ni_36, mi_37, ni_37, mi_38, ni_38, l_X12_puts, l_X12_seq]
  try rfl
theorem l_X12_beginPass_46 {C : Mem} {x2 : Int32} {xs0 : Int32} {M : Mem} : f_X12_beginPass_46  x2 xs0 (mix C M) = mq C (f_X12_beginPass_46  x2 xs0 M) := by
  unfold f_X12_beginPass_46
  simp (maxSteps := 4000000) (disch := assumption) only [mq_none, mq_some, mq_ite, mq_bnd, bnd_mq, mq_nm, mi_10, ni_10, mi_30, ni_30, mi_31, ni_31, mi_32, ni_32, mi_33, ml_33, nl_33, mi_34, ni_34, mi_35, ml_35, nl_35, mi_36, ni_36, mi_37, ni_37, mi_38, ni_38, l_X12_puts]
  try rfl
theorem l_X12_beginPass {C : Mem} {x1 : Int32} {M : Mem} : f_X12_beginPass  x1 (mix C M) = mq C (f_X12_beginPass  x1 M) := by
  unfold f_X12_beginPass
  simp (maxSteps := 4000000) (disch := assumption) only [mq_none, mq_some, mq_ite, mq_bnd, bnd_mq, mq_nm, mi_10, ni_10, mi_30, ni_30, mi_31, ni_31, mi_32, ni_32, mi_33, ml_33, nl_33, mi_34, ni_34, mi_35, ml_35, nl_35, mi_36, ni_36, mi_37, ni_37, mi_38, ni_38, l_X12_beginPass_46, l_X12_entries, l_X12_its, l_X12_lesser, l_X12_puts, l_X12_seq]
  try rfl
theorem l_X12_startSequence {C : Mem} {x1 : Int32} {x2 : Int32} {M : Mem} : f_X12_startSequence  x1 x2 (mix C M) = mq C (f_X12_startSequence  x1 x2 M) := by
  unfold f_X12_startSequence
  simp (maxSteps := 4000000) (disch := assumption) only [mq_none, mq_some, mq_ite, mq_bnd, bnd_mq, mq_nm, mi_10, ni_10, mi_30, ni_30, mi_31, ni_31, mi_32, ni_32, mi_33, ml_33, nl_33, mi_34, ni_34, mi_35, ml_35, nl_35, mi_36, ni_36, mi_37, ni_37, mi_38, ni_38, l_X12_beginPass, l_X12_breakOff, l_X12_clearResult, l_X12_its, l_X12_puts, l_X12_seq]
  try rfl
theorem l_X12_fires_47 {C : Mem} {x1 : Int32} {M : Mem} : f_X12_fires_47  x1 (mix C M) = mq C (f_X12_fires_47  x1 M) := by
  unfold f_X12_fires_47
  simp (maxSteps := 4000000) (disch := assumption) only [mq_none, mq_some, mq_ite, mq_bnd, bnd_mq, mq_nm, mi_10, ni_10, mi_30, ni_30, mi_31, ni_31, mi_32, ni_32, mi_33, ml_33, nl_33, mi_34, ni_34, mi_35, ml_35, nl_35, mi_36, ni_36, mi_37, ni_37, mi_38, ni_38, l_X12_adds, l_X12_trig]
  try rfl
theorem l_X12_fires {C : Mem} {x1 : Int32} {M : Mem} : f_X12_fires  x1 (mix C M) = mq C (f_X12_fires  x1 M) := by
  unfold f_X12_fires
  simp (maxSteps := 4000000) (disch := assumption) only [mq_none, mq_some, mq_ite, mq_bnd, bnd_mq, mq_nm, mi_10, ni_10, mi_30, ni_30, mi_31, ni_31, mi_32, ni_32, mi_33, ml_33, nl_33, mi_34, ni_34, mi_35, ml_35, nl_35, mi_36, ni_36, mi_37, ni_37, mi_38, ni_38, l_X12_adds, l_X12_entries, l_X12_fires_47, l_X12_its, l_X12_seq, l_X12_startSequence, l_X12_trig]
  try rfl
theorem l_X12_fireTimers_53 {C : Mem} {r2 : Int32 → Mem → Option (Unit × Mem)} (hr2 : ∀ (x1 : Int32) (M : Mem), r2 x1 (mix C M) = mq C (r2 x1 M)) {x1 : Int32} {M : Mem} : f_X12_fireTimers_53 r2 x1 (mix C M) = mq C (f_X12_fireTimers_53 r2 x1 M) := by
  unfold f_X12_fireTimers_53
  simp (maxSteps := 4000000) (disch := assumption) only [mq_none, mq_some, mq_ite, mq_bnd, bnd_mq, mq_nm, mi_10, ni_10, mi_30, ni_30, mi_31, ni_31, mi_32, ni_32, mi_33, ml_33, nl_33, mi_34, ni_34, mi_35, ml_35, nl_35, mi_36, ni_36, mi_37, ni_37, mi_38, ni_38, hr2]
  try rfl
theorem l_X12_fireTimers_2 {C : Mem} : ∀ (n : Nat) (x1 : Int32) (M : Mem), f_X12_fireTimers_2  n x1 (mix C M) = mq C (f_X12_fireTimers_2  n x1 M) := by
  intro n
  induction n with
  | zero => intro x1 M; rfl
  | succ n ih =>
    intro x1 M
    unfold f_X12_fireTimers_2
    simp (maxSteps := 4000000) (disch := assumption) only [mq_none, mq_some, mq_ite, mq_bnd, bnd_mq, mq_nm, mi_10, ni_10, mi_30, ni_30, mi_31, ni_31, mi_32, ni_32, mi_33, ml_33, nl_33, mi_34, ni_34, mi_35, ml_35, nl_35, mi_36, ni_36, mi_37, ni_37, mi_38, ni_38, l_X12_fireTimers_53, l_X12_fires, l_X12_its, ih]
    try rfl
theorem l_X12_fireTimers {C : Mem} {M : Mem} : f_X12_fireTimers (mix C M) = mq C (f_X12_fireTimers   M) := by
  unfold f_X12_fireTimers
  simp (maxSteps := 4000000) (disch := assumption) only [mq_none, mq_some, mq_ite, mq_bnd, bnd_mq, mq_nm, mi_10, ni_10, mi_30, ni_30, mi_31, ni_31, mi_32, ni_32, mi_33, ml_33, nl_33, mi_34, ni_34, mi_35, ml_35, nl_35, mi_36, ni_36, mi_37, ni_37, mi_38, ni_38, l_X12_fireTimers_2]
  try rfl
theorem l_X12_lookAt_90 {C : Mem} {x1 : Int32} {x2 : Int32} {x3 : Int32} {xs0 : Int32} {xs1 : Int32} {M : Mem} : f_X12_lookAt_90  x1 x2 x3 xs0 xs1 (mix C M) = mq C (f_X12_lookAt_90  x1 x2 x3 xs0 xs1 M) := by
  unfold f_X12_lookAt_90
  simp (maxSteps := 4000000) (disch := assumption) only [mq_none, mq_some, mq_ite, mq_bnd, bnd_mq, mq_nm, mi_10, ni_10, mi_30, ni_30, mi_31, ni_31, mi_32, ni_32, mi_33, ml_33, nl_33, mi_34, ni_34, mi_35, ml_35, nl_35, mi_36, ni_36, mi_37, ni_37, mi_38, ni_38, l_X12_its, l_X12_puts, l_X12_win]
  try rfl
theorem l_X12_lookAt_62 {C : Mem} {x1 : Int32} {x2 : Int32} {x3 : Int32} {xs0 : Int32} {M : Mem} : f_X12_lookAt_62  x1 x2 x3 xs0 (mix C M) = mq C (f_X12_lookAt_62  x1 x2 x3 xs0 M) := by
  unfold f_X12_lookAt_62
  simp (maxSteps := 4000000) (disch := assumption) only [mq_none, mq_some, mq_ite, mq_bnd, bnd_mq, mq_nm, mi_10, ni_10, mi_30, ni_30, mi_31, ni_31, mi_32, ni_32, mi_33, ml_33, nl_33, mi_34, ni_34, mi_35, ml_35, nl_35, mi_36, ni_36, mi_37, ni_37, mi_38, ni_38, l_X12_its, l_X12_lookAt_90, l_X12_win]
  try rfl
theorem l_X12_lookAt_57 {C : Mem} {x1 : Int32} {x2 : Int32} {x3 : Int32} {M : Mem} : f_X12_lookAt_57  x1 x2 x3 (mix C M) = mq C (f_X12_lookAt_57  x1 x2 x3 M) := by
  unfold f_X12_lookAt_57
  simp (maxSteps := 4000000) (disch := assumption) only [mq_none, mq_some, mq_ite, mq_bnd, bnd_mq, mq_nm, mi_10, ni_10, mi_30, ni_30, mi_31, ni_31, mi_32, ni_32, mi_33, ml_33, nl_33, mi_34, ni_34, mi_35, ml_35, nl_35, mi_36, ni_36, mi_37, ni_37, mi_38, ni_38, l_X12_lookAt_62]
  try rfl
theorem l_X12_lookAt {C : Mem} {x1 : Int32} {x2 : Int32} {x3 : Int32} {x4 : Int32} {M : Mem} : f_X12_lookAt  x1 x2 x3 x4 (mix C M) = mq C (f_X12_lookAt  x1 x2 x3 x4 M) := by
  unfold f_X12_lookAt
  simp (maxSteps := 4000000) (disch := assumption) only [mq_none, mq_some, mq_ite, mq_bnd, bnd_mq, mq_nm, mi_10, ni_10, mi_30, ni_30, mi_31, ni_31, mi_32, ni_32, mi_33, ml_33, nl_33, mi_34, ni_34, mi_35, ml_35, nl_35, mi_36, ni_36, mi_37, ni_37, mi_38, ni_38, l_X12_its, l_X12_lookAt_57, l_X12_lookAt_62, l_X12_win]
  try rfl
theorem l_X12_putRow {C : Mem} {x1 : Int32} {x2 : Int32} {x3 : Int32} {x4 : Int32} {x5 : Int32} {M : Mem} : f_X12_putRow  x1 x2 x3 x4 x5 (mix C M) = mq C (f_X12_putRow  x1 x2 x3 x4 x5 M) := by
  unfold f_X12_putRow
  simp (maxSteps := 4000000) (disch := assumption) only [mq_none, mq_some, mq_ite, mq_bnd, bnd_mq, mq_nm, mi_10, ni_10, mi_30, ni_30, mi_31, ni_31, mi_32, ni_32, mi_33, ml_33, nl_33, mi_34, ni_34, mi_35, ml_35, nl_35, mi_36, ni_36, mi_37, ni_37, mi_38, ni_38, l_X12_puts]
  try rfl
theorem l_X12_dropOldest_2 {C : Mem} : ∀ (n : Nat) (x1 : Int32) (M : Mem), f_X12_dropOldest_2  n x1 (mix C M) = mq C (f_X12_dropOldest_2  n x1 M) := by
  intro n
  induction n with
  | zero => intro x1 M; rfl
  | succ n ih =>
    intro x1 M
    unfold f_X12_dropOldest_2
    simp (maxSteps := 4000000) (disch := assumption) only [mq_none, mq_some, mq_ite, mq_bnd, bnd_mq, mq_nm, mi_10, ni_10, mi_30, ni_30, mi_31, ni_31, mi_32, ni_32, mi_33, ml_33, nl_33, mi_34, ni_34, mi_35, ml_35, nl_35, mi_36, ni_36, mi_37, ni_37, mi_38, ni_38, l_X12_adds, l_X12_its, l_X12_puts, ih]
    try rfl
theorem l_X12_dropOldest {C : Mem} {M : Mem} : f_X12_dropOldest (mix C M) = mq C (f_X12_dropOldest   M) := by
  unfold f_X12_dropOldest
  simp (maxSteps := 4000000) (disch := assumption) only [mq_none, mq_some, mq_ite, mq_bnd, bnd_mq, mq_nm, mi_10, ni_10, mi_30, ni_30, mi_31, ni_31, mi_32, ni_32, mi_33, ml_33, nl_33, mi_34, ni_34, mi_35, ml_35, nl_35, mi_36, ni_36, mi_37, ni_37, mi_38, ni_38, l_X12_dropOldest_2]
  try rfl
theorem l_X12_enqueue_38 {C : Mem} {x1 : Int32} {x2 : Int32} {x3 : Int32} {M : Mem} : f_X12_enqueue_38  x1 x2 x3 (mix C M) = mq C (f_X12_enqueue_38  x1 x2 x3 M) := by
  unfold f_X12_enqueue_38
  simp (maxSteps := 4000000) (disch := assumption) only [mq_none, mq_some, mq_ite, mq_bnd, bnd_mq, mq_nm, mi_10, ni_10, mi_30, ni_30, mi_31, ni_31, mi_32, ni_32, mi_33, ml_33, nl_33, mi_34, ni_34, mi_35, ml_35, nl_35, mi_36, ni_36, mi_37, ni_37, mi_38, ni_38, l_X12_adds, l_X12_its, l_X12_putRow]
  try rfl
theorem l_X12_enqueue {C : Mem} {x1 : Int32} {x2 : Int32} {x3 : Int32} {M : Mem} : f_X12_enqueue  x1 x2 x3 (mix C M) = mq C (f_X12_enqueue  x1 x2 x3 M) := by
  unfold f_X12_enqueue
  simp (maxSteps := 4000000) (disch := assumption) only [mq_none, mq_some, mq_ite, mq_bnd, bnd_mq, mq_nm, mi_10, ni_10, mi_30, ni_30, mi_31, ni_31, mi_32, ni_32, mi_33, ml_33, nl_33, mi_34, ni_34, mi_35, ml_35, nl_35, mi_36, ni_36, mi_37, ni_37, mi_38, ni_38, l_X12_adds, l_X12_dropOldest, l_X12_enqueue_38, l_X12_its]
  try rfl
theorem l_X12_transfer_88 {C : Mem} : ∀ (n : Nat) (x2 : Int32) (M : Mem), f_X12_transfer_88  n x2 (mix C M) = mq C (f_X12_transfer_88  n x2 M) := by
  intro n
  induction n with
  | zero => intro x2 M; rfl
  | succ n ih =>
    intro x2 M
    unfold f_X12_transfer_88
    simp (maxSteps := 4000000) (disch := assumption) only [mq_none, mq_some, mq_ite, mq_bnd, bnd_mq, mq_nm, mi_10, ni_10, mi_30, ni_30, mi_31, ni_31, mi_32, ni_32, mi_33, ml_33, nl_33, mi_34, ni_34, mi_35, ml_35, nl_35, mi_36, ni_36, mi_37, ni_37, mi_38, ni_38, l_X12_adds, l_X12_dropOldest, l_X12_its, l_X12_puts, ih]
    try rfl
theorem l_X12_transfer_86 {C : Mem} {M : Mem} : f_X12_transfer_86 (mix C M) = mq C (f_X12_transfer_86   M) := by
  unfold f_X12_transfer_86
  simp (maxSteps := 4000000) (disch := assumption) only [mq_none, mq_some, mq_ite, mq_bnd, bnd_mq, mq_nm, mi_10, ni_10, mi_30, ni_30, mi_31, ni_31, mi_32, ni_32, mi_33, ml_33, nl_33, mi_34, ni_34, mi_35, ml_35, nl_35, mi_36, ni_36, mi_37, ni_37, mi_38, ni_38, l_X12_transfer_88]
  try rfl
theorem l_X12_transfer_46 {C : Mem} : ∀ (n : Nat) (x2 : Int32) (M : Mem), f_X12_transfer_46  n x2 (mix C M) = mq C (f_X12_transfer_46  n x2 M) := by
  intro n
  induction n with
  | zero => intro x2 M; rfl
  | succ n ih =>
    intro x2 M
    unfold f_X12_transfer_46
    simp (maxSteps := 4000000) (disch := assumption) only [mq_none, mq_some, mq_ite, mq_bnd, bnd_mq, mq_nm, mi_10, ni_10, mi_30, ni_30, mi_31, ni_31, mi_32, ni_32, mi_33, ml_33, nl_33, mi_34, ni_34, mi_35, ml_35, nl_35, mi_36, ni_36, mi_37, ni_37, mi_38, ni_38, l_X12_adds, l_X12_its, l_X12_puts, l_X12_transfer_86, ih]
    try rfl
theorem l_X12_transfer {C : Mem} {M : Mem} : f_X12_transfer (mix C M) = mq C (f_X12_transfer   M) := by
  unfold f_X12_transfer
  simp (maxSteps := 4000000) (disch := assumption) only [mq_none, mq_some, mq_ite, mq_bnd, bnd_mq, mq_nm, mi_10, ni_10, mi_30, ni_30, mi_31, ni_31, mi_32, ni_32, mi_33, ml_33, nl_33, mi_34, ni_34, mi_35, ml_35, nl_35, mi_36, ni_36, mi_37, ni_37, mi_38, ni_38, l_X12_its, l_X12_transfer_46, l_X12_transfer_86]
  try rfl
theorem l_X12_countChannel_94 {C : Mem} {x1 : Int32} {x2 : Int32} {M : Mem} : f_X12_countChannel_94  x1 x2 (mix C M) = mq C (f_X12_countChannel_94  x1 x2 M) := by
  unfold f_X12_countChannel_94
  simp (maxSteps := 4000000) (disch := assumption) only [mq_none, mq_some, mq_ite, mq_bnd, bnd_mq, mq_nm, mi_10, ni_10, mi_30, ni_30, mi_31, ni_31, mi_32, ni_32, mi_33, ml_33, nl_33, mi_34, ni_34, mi_35, ml_35, nl_35, mi_36, ni_36, mi_37, ni_37, mi_38, ni_38, l_X12_chan, l_X12_puts]
  try rfl
theorem l_X12_countChannel_76 {C : Mem} {x1 : Int32} {x2 : Int32} {x3 : Int32} {M : Mem} : f_X12_countChannel_76  x1 x2 x3 (mix C M) = mq C (f_X12_countChannel_76  x1 x2 x3 M) := by
  unfold f_X12_countChannel_76
  simp (maxSteps := 4000000) (disch := assumption) only [mq_none, mq_some, mq_ite, mq_bnd, bnd_mq, mq_nm, mi_10, ni_10, mi_30, ni_30, mi_31, ni_31, mi_32, ni_32, mi_33, ml_33, nl_33, mi_34, ni_34, mi_35, ml_35, nl_35, mi_36, ni_36, mi_37, ni_37, mi_38, ni_38, l_X12_chan, l_X12_countChannel_94, l_X12_its]
  try rfl
theorem l_X12_countChannel_66 {C : Mem} {x1 : Int32} {x2 : Int32} {x3 : Int32} {M : Mem} : f_X12_countChannel_66  x1 x2 x3 (mix C M) = mq C (f_X12_countChannel_66  x1 x2 x3 M) := by
  unfold f_X12_countChannel_66
  simp (maxSteps := 4000000) (disch := assumption) only [mq_none, mq_some, mq_ite, mq_bnd, bnd_mq, mq_nm, mi_10, ni_10, mi_30, ni_30, mi_31, ni_31, mi_32, ni_32, mi_33, ml_33, nl_33, mi_34, ni_34, mi_35, ml_35, nl_35, mi_36, ni_36, mi_37, ni_37, mi_38, ni_38, l_X12_chan, l_X12_countChannel_76, l_X12_puts]
  try rfl
theorem l_X12_countChannel_17 {C : Mem} {x1 : Int32} {x2 : Int32} {xs0 : Int32} {M : Mem} : f_X12_countChannel_17  x1 x2 xs0 (mix C M) = mq C (f_X12_countChannel_17  x1 x2 xs0 M) := by
  unfold f_X12_countChannel_17
  simp (maxSteps := 4000000) (disch := assumption) only [mq_none, mq_some, mq_ite, mq_bnd, bnd_mq, mq_nm, mi_10, ni_10, mi_30, ni_30, mi_31, ni_31, mi_32, ni_32, mi_33, ml_33, nl_33, mi_34, ni_34, mi_35, ml_35, nl_35, mi_36, ni_36, mi_37, ni_37, mi_38, ni_38, l_X12_adds, l_X12_chan, l_X12_countChannel_66, l_X12_countChannel_76, l_X12_its]
  try rfl
theorem l_X12_countChannel {C : Mem} {x1 : Int32} {x2 : Int32} {M : Mem} : f_X12_countChannel  x1 x2 (mix C M) = mq C (f_X12_countChannel  x1 x2 M) := by
  unfold f_X12_countChannel
  simp (maxSteps := 4000000) (disch := assumption) only [mq_none, mq_some, mq_ite, mq_bnd, bnd_mq, mq_nm, mi_10, ni_10, mi_30, ni_30, mi_31, ni_31, mi_32, ni_32, mi_33, ml_33, nl_33, mi_34, ni_34, mi_35, ml_35, nl_35, mi_36, ni_36, mi_37, ni_37, mi_38, ni_38, l_X12_chan, l_X12_countChannel_17, l_X12_its]
  try rfl
theorem l_X12_idle {C : Mem} {x1 : Int32} {M : Mem} : f_X12_idle  x1 (mix C M) = mq C (f_X12_idle  x1 M) := by
  unfold f_X12_idle
  simp (maxSteps := 4000000) (disch := assumption) only [mq_none, mq_some, mq_ite, mq_bnd, bnd_mq, mq_nm, mi_10, ni_10, mi_30, ni_30, mi_31, ni_31, mi_32, ni_32, mi_33, ml_33, nl_33, mi_34, ni_34, mi_35, ml_35, nl_35, mi_36, ni_36, mi_37, ni_37, mi_38, ni_38, l_X12_puts, l_X12_seq]
  try rfl
theorem l_X12_endPass_103 {C : Mem} {M : Mem} : f_X12_endPass_103 (mix C M) = mq C (f_X12_endPass_103   M) := by
  unfold f_X12_endPass_103
  simp (maxSteps := 4000000) (disch := assumption) only [mq_none, mq_some, mq_ite, mq_bnd, bnd_mq, mq_nm, mi_10, ni_10, mi_30, ni_30, mi_31, ni_31, mi_32, ni_32, mi_33, ml_33, nl_33, mi_34, ni_34, mi_35, ml_35, nl_35, mi_36, ni_36, mi_37, ni_37, mi_38, ni_38, l_X12_beginPass, l_X12_idle]
  try rfl
theorem l_X12_endPass_58 {C : Mem} {M : Mem} : f_X12_endPass_58 (mix C M) = mq C (f_X12_endPass_58   M) := by
  unfold f_X12_endPass_58
  simp (maxSteps := 4000000) (disch := assumption) only [mq_none, mq_some, mq_ite, mq_bnd, bnd_mq, mq_nm, mi_10, ni_10, mi_30, ni_30, mi_31, ni_31, mi_32, ni_32, mi_33, ml_33, nl_33, mi_34, ni_34, mi_35, ml_35, nl_35, mi_36, ni_36, mi_37, ni_37, mi_38, ni_38, l_X12_endPass_103, l_X12_entries, l_X12_its, l_X12_seq, l_X12_startSequence]
  try rfl
theorem l_X12_endPass {C : Mem} {x1 : Int32} {M : Mem} : f_X12_endPass  x1 (mix C M) = mq C (f_X12_endPass  x1 M) := by
  unfold f_X12_endPass
  simp (maxSteps := 4000000) (disch := assumption) only [mq_none, mq_some, mq_ite, mq_bnd, bnd_mq, mq_nm, mi_10, ni_10, mi_30, ni_30, mi_31, ni_31, mi_32, ni_32, mi_33, ml_33, nl_33, mi_34, ni_34, mi_35, ml_35, nl_35, mi_36, ni_36, mi_37, ni_37, mi_38, ni_38, l_X12_adds, l_X12_endPass_58, l_X12_entries, l_X12_idle, l_X12_its, l_X12_puts, l_X12_seq]
  try rfl
theorem l_X12_finishResult_197 {C : Mem} {x1 : Int32} {M : Mem} : f_X12_finishResult_197  x1 (mix C M) = mq C (f_X12_finishResult_197  x1 M) := by
  unfold f_X12_finishResult_197
  simp (maxSteps := 4000000) (disch := assumption) only [mq_none, mq_some, mq_ite, mq_bnd, bnd_mq, mq_nm, mi_10, ni_10, mi_30, ni_30, mi_31, ni_31, mi_32, ni_32, mi_33, ml_33, nl_33, mi_34, ni_34, mi_35, ml_35, nl_35, mi_36, ni_36, mi_37, ni_37, mi_38, ni_38, l_X12_adds, l_X12_endPass, l_X12_its, l_X12_seq]
  try rfl
theorem l_X12_finishResult_124 {C : Mem} : ∀ (n : Nat) (x1 : Int32) (x2 : Int32) (x3 : Int32) (x4 : Int32) (x5 : Int32) (x6 : Int32) (M : Mem), f_X12_finishResult_124  n x1 x2 x3 x4 x5 x6 (mix C M) = mq C (f_X12_finishResult_124  n x1 x2 x3 x4 x5 x6 M) := by
  intro n
  induction n with
  | zero => intro x1 x2 x3 x4 x5 x6 M; rfl
  | succ n ih =>
    intro x1 x2 x3 x4 x5 x6 M
    unfold f_X12_finishResult_124
    simp (maxSteps := 4000000) (disch := assumption) only [mq_none, mq_some, mq_ite, mq_bnd, bnd_mq, mq_nm, mi_10, ni_10, mi_30, ni_30, mi_31, ni_31, mi_32, ni_32, mi_33, ml_33, nl_33, mi_34, ni_34, mi_35, ml_35, nl_35, mi_36, ni_36, mi_37, ni_37, mi_38, ni_38, l_X12_enqueue, l_X12_finishResult_197, l_X12_its, l_X12_lookAt, l_X12_putRow, l_X12_puts, ih]
    try rfl
theorem l_X12_finishResult_37 {C : Mem} {x1 : Int32} {x2 : Int32} {xs0 : Int32} {M : Mem} : f_X12_finishResult_37  x1 x2 xs0 (mix C M) = mq C (f_X12_finishResult_37  x1 x2 xs0 M) := by
  unfold f_X12_finishResult_37
  simp (maxSteps := 4000000) (disch := assumption) only [mq_none, mq_some, mq_ite, mq_bnd, bnd_mq, mq_nm, mi_10, ni_10, mi_30, ni_30, mi_31, ni_31, mi_32, ni_32, mi_33, ml_33, nl_33, mi_34, ni_34, mi_35, ml_35, nl_35, mi_36, ni_36, mi_37, ni_37, mi_38, ni_38, l_X12_adds, l_X12_clearResult, l_X12_countChannel, l_X12_finishResult_124, l_X12_its, l_X12_seq]
  try rfl
theorem l_X12_finishResult {C : Mem} {x1 : Int32} {x2 : Int32} {M : Mem} : f_X12_finishResult  x1 x2 (mix C M) = mq C (f_X12_finishResult  x1 x2 M) := by
  unfold f_X12_finishResult
  simp (maxSteps := 4000000) (disch := assumption) only [mq_none, mq_some, mq_ite, mq_bnd, bnd_mq, mq_nm, mi_10, ni_10, mi_30, ni_30, mi_31, ni_31, mi_32, ni_32, mi_33, ml_33, nl_33, mi_34, ni_34, mi_35, ml_35, nl_35, mi_36, ni_36, mi_37, ni_37, mi_38, ni_38, l_X12_finishResult_37, l_X12_its, l_X12_seq]
  try rfl
theorem l_X12_startConversion_18 {C : Mem} {xs0 : Int32} {M : Mem} : f_X12_startConversion_18  xs0 (mix C M) = mq C (f_X12_startConversion_18  xs0 M) := by
  unfold f_X12_startConversion_18
  simp (maxSteps := 4000000) (disch := assumption) only [mq_none, mq_some, mq_ite, mq_bnd, bnd_mq, mq_nm, mi_10, ni_10, mi_30, ni_30, mi_31, ni_31, mi_32, ni_32, mi_33, ml_33, nl_33, mi_34, ni_34, mi_35, ml_35, nl_35, mi_36, ni_36, mi_37, ni_37, mi_38, ni_38, l_X12_chan, l_X12_entryOf, l_X12_its, l_X12_puts, l_X12_seq]
  try rfl
theorem l_X12_startConversion {C : Mem} {M : Mem} : f_X12_startConversion (mix C M) = mq C (f_X12_startConversion   M) := by
  unfold f_X12_startConversion
  simp (maxSteps := 4000000) (disch := assumption) only [mq_none, mq_some, mq_ite, mq_bnd, bnd_mq, mq_nm, mi_10, ni_10, mi_30, ni_30, mi_31, ni_31, mi_32, ni_32, mi_33, ml_33, nl_33, mi_34, ni_34, mi_35, ml_35, nl_35, mi_36, ni_36, mi_37, ni_37, mi_38, ni_38, l_X12_its, l_X12_seq, l_X12_startConversion_18]
  try rfl
theorem l_X12_convert_52 {C : Mem} {x1 : Int32} {x2 : Int32} {M : Mem} : f_X12_convert_52  x1 x2 (mix C M) = mq C (f_X12_convert_52  x1 x2 M) := by
  unfold f_X12_convert_52
  simp (maxSteps := 4000000) (disch := assumption) only [mq_none, mq_some, mq_ite, mq_bnd, bnd_mq, mq_nm, mi_10, ni_10, mi_30, ni_30, mi_31, ni_31, mi_32, ni_32, mi_33, ml_33, nl_33, mi_34, ni_34, mi_35, ml_35, nl_35, mi_36, ni_36, mi_37, ni_37, mi_38, ni_38, l_X12_adds, l_X12_finishResult, l_X12_its, l_X12_puts, l_X12_seq]
  try rfl
theorem l_X12_convert {C : Mem} {M : Mem} : f_X12_convert (mix C M) = mq C (f_X12_convert   M) := by
  unfold f_X12_convert
  simp (maxSteps := 4000000) (disch := assumption) only [mq_none, mq_some, mq_ite, mq_bnd, bnd_mq, mq_nm, mi_10, ni_10, mi_30, ni_30, mi_31, ni_31, mi_32, ni_32, mi_33, ml_33, nl_33, mi_34, ni_34, mi_35, ml_35, nl_35, mi_36, ni_36, mi_37, ni_37, mi_38, ni_38, l_X12_adds, l_X12_convert_52, l_X12_its, l_X12_puts, l_X12_signalOf]
  try rfl
theorem l_X12_passCycle {C : Mem} {M : Mem} : f_X12_passCycle (mix C M) = mq C (f_X12_passCycle   M) := by
  unfold f_X12_passCycle
  simp (maxSteps := 4000000) (disch := assumption) only [mq_none, mq_some, mq_ite, mq_bnd, bnd_mq, mq_nm, mi_10, ni_10, mi_30, ni_30, mi_31, ni_31, mi_32, ni_32, mi_33, ml_33, nl_33, mi_34, ni_34, mi_35, ml_35, nl_35, mi_36, ni_36, mi_37, ni_37, mi_38, ni_38, l_X12_adds, l_X12_convert, l_X12_fireTimers, l_X12_startConversion, l_X12_transfer]
  try rfl
theorem l_X12_run_36 {C : Mem} : ∀ (n : Nat) (x1 : Int32) (x2 : Int32) (x3 : Int32) (M : Mem), f_X12_run_36  n x1 x2 x3 (mix C M) = mq C (f_X12_run_36  n x1 x2 x3 M) := by
  intro n
  induction n with
  | zero => intro x1 x2 x3 M; rfl
  | succ n ih =>
    intro x1 x2 x3 M
    unfold f_X12_run_36
    simp (maxSteps := 4000000) (disch := assumption) only [mq_none, mq_some, mq_ite, mq_bnd, bnd_mq, mq_nm, mi_10, ni_10, mi_30, ni_30, mi_31, ni_31, mi_32, ni_32, mi_33, ml_33, nl_33, mi_34, ni_34, mi_35, ml_35, nl_35, mi_36, ni_36, mi_37, ni_37, mi_38, ni_38, l_X12_its, l_X12_passCycle, ih]
    try rfl
theorem l_X12_run_17 {C : Mem} {x1 : Int32} {xs0 : Int32} {M : Mem} : f_X12_run_17  x1 xs0 (mix C M) = mq C (f_X12_run_17  x1 xs0 M) := by
  unfold f_X12_run_17
  simp (maxSteps := 4000000) (disch := assumption) only [mq_none, mq_some, mq_ite, mq_bnd, bnd_mq, mq_nm, mi_10, ni_10, mi_30, ni_30, mi_31, ni_31, mi_32, ni_32, mi_33, ml_33, nl_33, mi_34, ni_34, mi_35, ml_35, nl_35, mi_36, ni_36, mi_37, ni_37, mi_38, ni_38, l_X12_fails, l_X12_its, l_X12_run_36]
  try rfl
theorem l_X12_run {C : Mem} {x1 : Int32} {M : Mem} : f_X12_run  x1 (mix C M) = mq C (f_X12_run  x1 M) := by
  unfold f_X12_run
  simp (maxSteps := 4000000) (disch := assumption) only [mq_none, mq_some, mq_ite, mq_bnd, bnd_mq, mq_nm, mi_10, ni_10, mi_30, ni_30, mi_31, ni_31, mi_32, ni_32, mi_33, ml_33, nl_33, mi_34, ni_34, mi_35, ml_35, nl_35, mi_36, ni_36, mi_37, ni_37, mi_38, ni_38, l_X12_inRange, l_X12_run_17]
  try rfl
theorem l_X12_isTrigger {C : Mem} {x1 : Int32} {M : Mem} : f_X12_isTrigger  x1 (mix C M) = mq C (f_X12_isTrigger  x1 M) := by
  unfold f_X12_isTrigger
  simp (maxSteps := 4000000) (disch := assumption) only [mq_none, mq_some, mq_ite, mq_bnd, bnd_mq, mq_nm, mi_10, ni_10, mi_30, ni_30, mi_31, ni_31, mi_32, ni_32, mi_33, ml_33, nl_33, mi_34, ni_34, mi_35, ml_35, nl_35, mi_36, ni_36, mi_37, ni_37, mi_38, ni_38, l_X12_inRange]
  try rfl
theorem l_X12_fire_14 {C : Mem} {x1 : Int32} {xs0 : Int32} {M : Mem} : f_X12_fire_14  x1 xs0 (mix C M) = mq C (f_X12_fire_14  x1 xs0 M) := by
  unfold f_X12_fire_14
  simp (maxSteps := 4000000) (disch := assumption) only [mq_none, mq_some, mq_ite, mq_bnd, bnd_mq, mq_nm, mi_10, ni_10, mi_30, ni_30, mi_31, ni_31, mi_32, ni_32, mi_33, ml_33, nl_33, mi_34, ni_34, mi_35, ml_35, nl_35, mi_36, ni_36, mi_37, ni_37, mi_38, ni_38, l_X12_fails, l_X12_fires]
  try rfl
theorem l_X12_fire {C : Mem} {x1 : Int32} {M : Mem} : f_X12_fire  x1 (mix C M) = mq C (f_X12_fire  x1 M) := by
  unfold f_X12_fire
  simp (maxSteps := 4000000) (disch := assumption) only [mq_none, mq_some, mq_ite, mq_bnd, bnd_mq, mq_nm, mi_10, ni_10, mi_30, ni_30, mi_31, ni_31, mi_32, ni_32, mi_33, ml_33, nl_33, mi_34, ni_34, mi_35, ml_35, nl_35, mi_36, ni_36, mi_37, ni_37, mi_38, ni_38, l_X12_fire_14, l_X12_isTrigger]
  try rfl
theorem l_X12_stop_28 {C : Mem} {x1 : Int32} {M : Mem} : f_X12_stop_28  x1 (mix C M) = mq C (f_X12_stop_28  x1 M) := by
  unfold f_X12_stop_28
  simp (maxSteps := 4000000) (disch := assumption) only [mq_none, mq_some, mq_ite, mq_bnd, bnd_mq, mq_nm, mi_10, ni_10, mi_30, ni_30, mi_31, ni_31, mi_32, ni_32, mi_33, ml_33, nl_33, mi_34, ni_34, mi_35, ml_35, nl_35, mi_36, ni_36, mi_37, ni_37, mi_38, ni_38, l_X12_clearResult, l_X12_idle, l_X12_puts, l_X12_seq]
  try rfl
theorem l_X12_stop {C : Mem} {M : Mem} : f_X12_stop (mix C M) = mq C (f_X12_stop   M) := by
  unfold f_X12_stop
  simp (maxSteps := 4000000) (disch := assumption) only [mq_none, mq_some, mq_ite, mq_bnd, bnd_mq, mq_nm, mi_10, ni_10, mi_30, ni_30, mi_31, ni_31, mi_32, ni_32, mi_33, ml_33, nl_33, mi_34, ni_34, mi_35, ml_35, nl_35, mi_36, ni_36, mi_37, ni_37, mi_38, ni_38, l_X12_breakOff, l_X12_its, l_X12_seq, l_X12_stop_28]
  try rfl
theorem l_X12_take_15 {C : Mem} {xs0 : Int32} {M : Mem} : f_X12_take_15  xs0 (mix C M) = mq C (f_X12_take_15  xs0 M) := by
  unfold f_X12_take_15
  simp (maxSteps := 4000000) (disch := assumption) only [mq_none, mq_some, mq_ite, mq_bnd, bnd_mq, mq_nm, mi_10, ni_10, mi_30, ni_30, mi_31, ni_31, mi_32, ni_32, mi_33, ml_33, nl_33, mi_34, ni_34, mi_35, ml_35, nl_35, mi_36, ni_36, mi_37, ni_37, mi_38, ni_38, l_X12_dropOldest, l_X12_fails, l_X12_its]
  try rfl
theorem l_X12_take {C : Mem} {M : Mem} : f_X12_take (mix C M) = mq C (f_X12_take   M) := by
  unfold f_X12_take
  simp (maxSteps := 4000000) (disch := assumption) only [mq_none, mq_some, mq_ite, mq_bnd, bnd_mq, mq_nm, mi_10, ni_10, mi_30, ni_30, mi_31, ni_31, mi_32, ni_32, mi_33, ml_33, nl_33, mi_34, ni_34, mi_35, ml_35, nl_35, mi_36, ni_36, mi_37, ni_37, mi_38, ni_38, l_X12_its, l_X12_take_15]
  try rfl
theorem l_X12_isWindow_26 {C : Mem} {M : Mem} : f_X12_isWindow_26 (mix C M) = mq C (f_X12_isWindow_26   M) := by
  unfold f_X12_isWindow_26
  simp (maxSteps := 4000000) (disch := assumption) only [mq_none, mq_some, mq_ite, mq_bnd, bnd_mq, mq_nm, mi_10, ni_10, mi_30, ni_30, mi_31, ni_31, mi_32, ni_32, mi_33, ml_33, nl_33, mi_34, ni_34, mi_35, ml_35, nl_35, mi_36, ni_36, mi_37, ni_37, mi_38, ni_38]
  try rfl
theorem l_X12_isWindow {C : Mem} {x1 : Int32} {M : Mem} : f_X12_isWindow  x1 (mix C M) = mq C (f_X12_isWindow  x1 M) := by
  unfold f_X12_isWindow
  simp (maxSteps := 4000000) (disch := assumption) only [mq_none, mq_some, mq_ite, mq_bnd, bnd_mq, mq_nm, mi_10, ni_10, mi_30, ni_30, mi_31, ni_31, mi_32, ni_32, mi_33, ml_33, nl_33, mi_34, ni_34, mi_35, ml_35, nl_35, mi_36, ni_36, mi_37, ni_37, mi_38, ni_38, l_X12_inRange, l_X12_isWindow_26]
  try rfl
theorem l_X12_acknowledge_14 {C : Mem} {x1 : Int32} {xs0 : Int32} {M : Mem} : f_X12_acknowledge_14  x1 xs0 (mix C M) = mq C (f_X12_acknowledge_14  x1 xs0 M) := by
  unfold f_X12_acknowledge_14
  simp (maxSteps := 4000000) (disch := assumption) only [mq_none, mq_some, mq_ite, mq_bnd, bnd_mq, mq_nm, mi_10, ni_10, mi_30, ni_30, mi_31, ni_31, mi_32, ni_32, mi_33, ml_33, nl_33, mi_34, ni_34, mi_35, ml_35, nl_35, mi_36, ni_36, mi_37, ni_37, mi_38, ni_38, l_X12_fails, l_X12_its, l_X12_puts, l_X12_win]
  try rfl
theorem l_X12_acknowledge {C : Mem} {x1 : Int32} {M : Mem} : f_X12_acknowledge  x1 (mix C M) = mq C (f_X12_acknowledge  x1 M) := by
  unfold f_X12_acknowledge
  simp (maxSteps := 4000000) (disch := assumption) only [mq_none, mq_some, mq_ite, mq_bnd, bnd_mq, mq_nm, mi_10, ni_10, mi_30, ni_30, mi_31, ni_31, mi_32, ni_32, mi_33, ml_33, nl_33, mi_34, ni_34, mi_35, ml_35, nl_35, mi_36, ni_36, mi_37, ni_37, mi_38, ni_38, l_X12_acknowledge_14, l_X12_isWindow]
  try rfl
theorem l_X12_setSignal_53 {C : Mem} {x1 : Int32} {x2 : Int32} {x3 : Int32} {x4 : Int32} {xs0 : Int32} {xs1 : Int32} {M : Mem} : f_X12_setSignal_53  x1 x2 x3 x4 xs0 xs1 (mix C M) = mq C (f_X12_setSignal_53  x1 x2 x3 x4 xs0 xs1 M) := by
  unfold f_X12_setSignal_53
  simp (maxSteps := 4000000) (disch := assumption) only [mq_none, mq_some, mq_ite, mq_bnd, bnd_mq, mq_nm, mi_10, ni_10, mi_30, ni_30, mi_31, ni_31, mi_32, ni_32, mi_33, ml_33, nl_33, mi_34, ni_34, mi_35, ml_35, nl_35, mi_36, ni_36, mi_37, ni_37, mi_38, ni_38, l_X12_chan, l_X12_fails, l_X12_its, l_X12_puts, l_X12_signalOf]
  try rfl
theorem l_X12_setSignal_48 {C : Mem} {x1 : Int32} {x2 : Int32} {x3 : Int32} {x4 : Int32} {xs0 : Int32} {M : Mem} : f_X12_setSignal_48  x1 x2 x3 x4 xs0 (mix C M) = mq C (f_X12_setSignal_48  x1 x2 x3 x4 xs0 M) := by
  unfold f_X12_setSignal_48
  simp (maxSteps := 4000000) (disch := assumption) only [mq_none, mq_some, mq_ite, mq_bnd, bnd_mq, mq_nm, mi_10, ni_10, mi_30, ni_30, mi_31, ni_31, mi_32, ni_32, mi_33, ml_33, nl_33, mi_34, ni_34, mi_35, ml_35, nl_35, mi_36, ni_36, mi_37, ni_37, mi_38, ni_38, l_X12_setSignal_53]
  try rfl
theorem l_X12_setSignal_14 {C : Mem} {x1 : Int32} {x2 : Int32} {x3 : Int32} {x4 : Int32} {xs0 : Int32} {M : Mem} : f_X12_setSignal_14  x1 x2 x3 x4 xs0 (mix C M) = mq C (f_X12_setSignal_14  x1 x2 x3 x4 xs0 M) := by
  unfold f_X12_setSignal_14
  simp (maxSteps := 4000000) (disch := assumption) only [mq_none, mq_some, mq_ite, mq_bnd, bnd_mq, mq_nm, mi_10, ni_10, mi_30, ni_30, mi_31, ni_31, mi_32, ni_32, mi_33, ml_33, nl_33, mi_34, ni_34, mi_35, ml_35, nl_35, mi_36, ni_36, mi_37, ni_37, mi_38, ni_38, l_X12_inRange, l_X12_setSignal_48, l_X12_setSignal_53]
  try rfl
theorem l_X12_setSignal {C : Mem} {x1 : Int32} {x2 : Int32} {x3 : Int32} {x4 : Int32} {M : Mem} : f_X12_setSignal  x1 x2 x3 x4 (mix C M) = mq C (f_X12_setSignal  x1 x2 x3 x4 M) := by
  unfold f_X12_setSignal
  simp (maxSteps := 4000000) (disch := assumption) only [mq_none, mq_some, mq_ite, mq_bnd, bnd_mq, mq_nm, mi_10, ni_10, mi_30, ni_30, mi_31, ni_31, mi_32, ni_32, mi_33, ml_33, nl_33, mi_34, ni_34, mi_35, ml_35, nl_35, mi_36, ni_36, mi_37, ni_37, mi_38, ni_38, l_X12_isChannel, l_X12_setSignal_14]
  try rfl
theorem l_X12_setSample_29 {C : Mem} {x1 : Int32} {x2 : Int32} {xs0 : Int32} {xs1 : Int32} {M : Mem} : f_X12_setSample_29  x1 x2 xs0 xs1 (mix C M) = mq C (f_X12_setSample_29  x1 x2 xs0 xs1 M) := by
  unfold f_X12_setSample_29
  simp (maxSteps := 4000000) (disch := assumption) only [mq_none, mq_some, mq_ite, mq_bnd, bnd_mq, mq_nm, mi_10, ni_10, mi_30, ni_30, mi_31, ni_31, mi_32, ni_32, mi_33, ml_33, nl_33, mi_34, ni_34, mi_35, ml_35, nl_35, mi_36, ni_36, mi_37, ni_37, mi_38, ni_38, l_X12_chan, l_X12_fails, l_X12_its, l_X12_puts]
  try rfl
theorem l_X12_setSample_14 {C : Mem} {x1 : Int32} {x2 : Int32} {xs0 : Int32} {M : Mem} : f_X12_setSample_14  x1 x2 xs0 (mix C M) = mq C (f_X12_setSample_14  x1 x2 xs0 M) := by
  unfold f_X12_setSample_14
  simp (maxSteps := 4000000) (disch := assumption) only [mq_none, mq_some, mq_ite, mq_bnd, bnd_mq, mq_nm, mi_10, ni_10, mi_30, ni_30, mi_31, ni_31, mi_32, ni_32, mi_33, ml_33, nl_33, mi_34, ni_34, mi_35, ml_35, nl_35, mi_36, ni_36, mi_37, ni_37, mi_38, ni_38, l_X12_inRange, l_X12_setSample_29]
  try rfl
theorem l_X12_setSample {C : Mem} {x1 : Int32} {x2 : Int32} {M : Mem} : f_X12_setSample  x1 x2 (mix C M) = mq C (f_X12_setSample  x1 x2 M) := by
  unfold f_X12_setSample
  simp (maxSteps := 4000000) (disch := assumption) only [mq_none, mq_some, mq_ite, mq_bnd, bnd_mq, mq_nm, mi_10, ni_10, mi_30, ni_30, mi_31, ni_31, mi_32, ni_32, mi_33, ml_33, nl_33, mi_34, ni_34, mi_35, ml_35, nl_35, mi_36, ni_36, mi_37, ni_37, mi_38, ni_38, l_X12_isChannel, l_X12_setSample_14]
  try rfl
theorem l_X12_setWindow_39 {C : Mem} {x1 : Int32} {x2 : Int32} {x3 : Int32} {xs0 : Int32} {xs1 : Int32} {M : Mem} : f_X12_setWindow_39  x1 x2 x3 xs0 xs1 (mix C M) = mq C (f_X12_setWindow_39  x1 x2 x3 xs0 xs1 M) := by
  unfold f_X12_setWindow_39
  simp (maxSteps := 4000000) (disch := assumption) only [mq_none, mq_some, mq_ite, mq_bnd, bnd_mq, mq_nm, mi_10, ni_10, mi_30, ni_30, mi_31, ni_31, mi_32, ni_32, mi_33, ml_33, nl_33, mi_34, ni_34, mi_35, ml_35, nl_35, mi_36, ni_36, mi_37, ni_37, mi_38, ni_38, l_X12_fails, l_X12_its, l_X12_puts, l_X12_win]
  try rfl
theorem l_X12_setWindow_34 {C : Mem} {x1 : Int32} {x2 : Int32} {x3 : Int32} {xs0 : Int32} {M : Mem} : f_X12_setWindow_34  x1 x2 x3 xs0 (mix C M) = mq C (f_X12_setWindow_34  x1 x2 x3 xs0 M) := by
  unfold f_X12_setWindow_34
  simp (maxSteps := 4000000) (disch := assumption) only [mq_none, mq_some, mq_ite, mq_bnd, bnd_mq, mq_nm, mi_10, ni_10, mi_30, ni_30, mi_31, ni_31, mi_32, ni_32, mi_33, ml_33, nl_33, mi_34, ni_34, mi_35, ml_35, nl_35, mi_36, ni_36, mi_37, ni_37, mi_38, ni_38, l_X12_setWindow_39]
  try rfl
theorem l_X12_setWindow_14 {C : Mem} {x1 : Int32} {x2 : Int32} {x3 : Int32} {xs0 : Int32} {M : Mem} : f_X12_setWindow_14  x1 x2 x3 xs0 (mix C M) = mq C (f_X12_setWindow_14  x1 x2 x3 xs0 M) := by
  unfold f_X12_setWindow_14
  simp (maxSteps := 4000000) (disch := assumption) only [mq_none, mq_some, mq_ite, mq_bnd, bnd_mq, mq_nm, mi_10, ni_10, mi_30, ni_30, mi_31, ni_31, mi_32, ni_32, mi_33, ml_33, nl_33, mi_34, ni_34, mi_35, ml_35, nl_35, mi_36, ni_36, mi_37, ni_37, mi_38, ni_38, l_X12_inRange, l_X12_setWindow_34, l_X12_setWindow_39]
  try rfl
theorem l_X12_setWindow {C : Mem} {x1 : Int32} {x2 : Int32} {x3 : Int32} {M : Mem} : f_X12_setWindow  x1 x2 x3 (mix C M) = mq C (f_X12_setWindow  x1 x2 x3 M) := by
  unfold f_X12_setWindow
  simp (maxSteps := 4000000) (disch := assumption) only [mq_none, mq_some, mq_ite, mq_bnd, bnd_mq, mq_nm, mi_10, ni_10, mi_30, ni_30, mi_31, ni_31, mi_32, ni_32, mi_33, ml_33, nl_33, mi_34, ni_34, mi_35, ml_35, nl_35, mi_36, ni_36, mi_37, ni_37, mi_38, ni_38, l_X12_isWindow, l_X12_setWindow_14]
  try rfl
theorem l_X12_setPace_17 {C : Mem} {x1 : Int32} {xs0 : Int32} {M : Mem} : f_X12_setPace_17  x1 xs0 (mix C M) = mq C (f_X12_setPace_17  x1 xs0 M) := by
  unfold f_X12_setPace_17
  simp (maxSteps := 4000000) (disch := assumption) only [mq_none, mq_some, mq_ite, mq_bnd, bnd_mq, mq_nm, mi_10, ni_10, mi_30, ni_30, mi_31, ni_31, mi_32, ni_32, mi_33, ml_33, nl_33, mi_34, ni_34, mi_35, ml_35, nl_35, mi_36, ni_36, mi_37, ni_37, mi_38, ni_38, l_X12_fails, l_X12_its, l_X12_puts]
  try rfl
theorem l_X12_setPace {C : Mem} {x1 : Int32} {M : Mem} : f_X12_setPace  x1 (mix C M) = mq C (f_X12_setPace  x1 M) := by
  unfold f_X12_setPace
  simp (maxSteps := 4000000) (disch := assumption) only [mq_none, mq_some, mq_ite, mq_bnd, bnd_mq, mq_nm, mi_10, ni_10, mi_30, ni_30, mi_31, ni_31, mi_32, ni_32, mi_33, ml_33, nl_33, mi_34, ni_34, mi_35, ml_35, nl_35, mi_36, ni_36, mi_37, ni_37, mi_38, ni_38, l_X12_inRange, l_X12_setPace_17]
  try rfl
theorem l_X12_state_16 {C : Mem} {x1 : Int32} {xs0 : Int32} {M : Mem} : f_X12_state_16  x1 xs0 (mix C M) = mq C (f_X12_state_16  x1 xs0 M) := by
  unfold f_X12_state_16
  simp (maxSteps := 4000000) (disch := assumption) only [mq_none, mq_some, mq_ite, mq_bnd, bnd_mq, mq_nm, mi_10, ni_10, mi_30, ni_30, mi_31, ni_31, mi_32, ni_32, mi_33, ml_33, nl_33, mi_34, ni_34, mi_35, ml_35, nl_35, mi_36, ni_36, mi_37, ni_37, mi_38, ni_38, l_X12_fails, l_X12_its]
  try rfl
theorem l_X12_state {C : Mem} {x1 : Int32} {M : Mem} : f_X12_state  x1 (mix C M) = mq C (f_X12_state  x1 M) := by
  unfold f_X12_state
  simp (maxSteps := 4000000) (disch := assumption) only [mq_none, mq_some, mq_ite, mq_bnd, bnd_mq, mq_nm, mi_10, ni_10, mi_30, ni_30, mi_31, ni_31, mi_32, ni_32, mi_33, ml_33, nl_33, mi_34, ni_34, mi_35, ml_35, nl_35, mi_36, ni_36, mi_37, ni_37, mi_38, ni_38, l_X12_inRange, l_X12_state_16]
  try rfl
theorem l_X12_sequence_35 {C : Mem} {x2 : Int32} {xs0 : Int32} {M : Mem} : f_X12_sequence_35  x2 xs0 (mix C M) = mq C (f_X12_sequence_35  x2 xs0 M) := by
  unfold f_X12_sequence_35
  simp (maxSteps := 4000000) (disch := assumption) only [mq_none, mq_some, mq_ite, mq_bnd, bnd_mq, mq_nm, mi_10, ni_10, mi_30, ni_30, mi_31, ni_31, mi_32, ni_32, mi_33, ml_33, nl_33, mi_34, ni_34, mi_35, ml_35, nl_35, mi_36, ni_36, mi_37, ni_37, mi_38, ni_38, l_X12_entries, l_X12_its, l_X12_seq]
  try rfl
theorem l_X12_sequence_16 {C : Mem} {x1 : Int32} {x2 : Int32} {xs0 : Int32} {M : Mem} : f_X12_sequence_16  x1 x2 xs0 (mix C M) = mq C (f_X12_sequence_16  x1 x2 xs0 M) := by
  unfold f_X12_sequence_16
  simp (maxSteps := 4000000) (disch := assumption) only [mq_none, mq_some, mq_ite, mq_bnd, bnd_mq, mq_nm, mi_10, ni_10, mi_30, ni_30, mi_31, ni_31, mi_32, ni_32, mi_33, ml_33, nl_33, mi_34, ni_34, mi_35, ml_35, nl_35, mi_36, ni_36, mi_37, ni_37, mi_38, ni_38, l_X12_fails, l_X12_sequence_35]
  try rfl
theorem l_X12_sequence {C : Mem} {x1 : Int32} {x2 : Int32} {M : Mem} : f_X12_sequence  x1 x2 (mix C M) = mq C (f_X12_sequence  x1 x2 M) := by
  unfold f_X12_sequence
  simp (maxSteps := 4000000) (disch := assumption) only [mq_none, mq_some, mq_ite, mq_bnd, bnd_mq, mq_nm, mi_10, ni_10, mi_30, ni_30, mi_31, ni_31, mi_32, ni_32, mi_33, ml_33, nl_33, mi_34, ni_34, mi_35, ml_35, nl_35, mi_36, ni_36, mi_37, ni_37, mi_38, ni_38, l_X12_inRange, l_X12_sequence_16]
  try rfl
theorem l_X12_entry_31 {C : Mem} {x2 : Int32} {x3 : Int32} {xs0 : Int32} {M : Mem} : f_X12_entry_31  x2 x3 xs0 (mix C M) = mq C (f_X12_entry_31  x2 x3 xs0 M) := by
  unfold f_X12_entry_31
  simp (maxSteps := 4000000) (disch := assumption) only [mq_none, mq_some, mq_ite, mq_bnd, bnd_mq, mq_nm, mi_10, ni_10, mi_30, ni_30, mi_31, ni_31, mi_32, ni_32, mi_33, ml_33, nl_33, mi_34, ni_34, mi_35, ml_35, nl_35, mi_36, ni_36, mi_37, ni_37, mi_38, ni_38, l_X12_entryOf, l_X12_fails]
  try rfl
theorem l_X12_entry_9 {C : Mem} {x2 : Int32} {xs0 : Int32} {M : Mem} : f_X12_entry_9  x2 xs0 (mix C M) = mq C (f_X12_entry_9  x2 xs0 M) := by
  unfold f_X12_entry_9
  simp (maxSteps := 4000000) (disch := assumption) only [mq_none, mq_some, mq_ite, mq_bnd, bnd_mq, mq_nm, mi_10, ni_10, mi_30, ni_30, mi_31, ni_31, mi_32, ni_32, mi_33, ml_33, nl_33, mi_34, ni_34, mi_35, ml_35, nl_35, mi_36, ni_36, mi_37, ni_37, mi_38, ni_38, l_X12_entries, l_X12_entry_31, l_X12_inRange]
  try rfl
theorem l_X12_entry {C : Mem} {x1 : Int32} {x2 : Int32} {M : Mem} : f_X12_entry  x1 x2 (mix C M) = mq C (f_X12_entry  x1 x2 M) := by
  unfold f_X12_entry
  simp (maxSteps := 4000000) (disch := assumption) only [mq_none, mq_some, mq_ite, mq_bnd, bnd_mq, mq_nm, mi_10, ni_10, mi_30, ni_30, mi_31, ni_31, mi_32, ni_32, mi_33, ml_33, nl_33, mi_34, ni_34, mi_35, ml_35, nl_35, mi_36, ni_36, mi_37, ni_37, mi_38, ni_38, l_X12_entry_9]
  try rfl
theorem l_X12_channel_29 {C : Mem} {x1 : Int32} {x2 : Int32} {xs0 : Int32} {xs1 : Int32} {M : Mem} : f_X12_channel_29  x1 x2 xs0 xs1 (mix C M) = mq C (f_X12_channel_29  x1 x2 xs0 xs1 M) := by
  unfold f_X12_channel_29
  simp (maxSteps := 4000000) (disch := assumption) only [mq_none, mq_some, mq_ite, mq_bnd, bnd_mq, mq_nm, mi_10, ni_10, mi_30, ni_30, mi_31, ni_31, mi_32, ni_32, mi_33, ml_33, nl_33, mi_34, ni_34, mi_35, ml_35, nl_35, mi_36, ni_36, mi_37, ni_37, mi_38, ni_38, l_X12_chan, l_X12_fails, l_X12_its]
  try rfl
theorem l_X12_channel_14 {C : Mem} {x1 : Int32} {x2 : Int32} {xs0 : Int32} {M : Mem} : f_X12_channel_14  x1 x2 xs0 (mix C M) = mq C (f_X12_channel_14  x1 x2 xs0 M) := by
  unfold f_X12_channel_14
  simp (maxSteps := 4000000) (disch := assumption) only [mq_none, mq_some, mq_ite, mq_bnd, bnd_mq, mq_nm, mi_10, ni_10, mi_30, ni_30, mi_31, ni_31, mi_32, ni_32, mi_33, ml_33, nl_33, mi_34, ni_34, mi_35, ml_35, nl_35, mi_36, ni_36, mi_37, ni_37, mi_38, ni_38, l_X12_channel_29, l_X12_inRange]
  try rfl
theorem l_X12_channel {C : Mem} {x1 : Int32} {x2 : Int32} {M : Mem} : f_X12_channel  x1 x2 (mix C M) = mq C (f_X12_channel  x1 x2 M) := by
  unfold f_X12_channel
  simp (maxSteps := 4000000) (disch := assumption) only [mq_none, mq_some, mq_ite, mq_bnd, bnd_mq, mq_nm, mi_10, ni_10, mi_30, ni_30, mi_31, ni_31, mi_32, ni_32, mi_33, ml_33, nl_33, mi_34, ni_34, mi_35, ml_35, nl_35, mi_36, ni_36, mi_37, ni_37, mi_38, ni_38, l_X12_channel_14, l_X12_isChannel]
  try rfl
theorem l_X12_sum_14 {C : Mem} {x1 : Int32} {xs0 : Int32} {M : Mem} : f_X12_sum_14  x1 xs0 (mix C M) = mq C (f_X12_sum_14  x1 xs0 M) := by
  unfold f_X12_sum_14
  simp (maxSteps := 4000000) (disch := assumption) only [mq_none, mq_some, mq_ite, mq_bnd, bnd_mq, mq_nm, mi_10, ni_10, mi_30, ni_30, mi_31, ni_31, mi_32, ni_32, mi_33, ml_33, nl_33, mi_34, ni_34, mi_35, ml_35, nl_35, mi_36, ni_36, mi_37, ni_37, mi_38, ni_38, l_X12_fails]
  try rfl
theorem l_X12_sum {C : Mem} {x1 : Int32} {M : Mem} : f_X12_sum  x1 (mix C M) = mq C (f_X12_sum  x1 M) := by
  unfold f_X12_sum
  simp (maxSteps := 4000000) (disch := assumption) only [mq_none, mq_some, mq_ite, mq_bnd, bnd_mq, mq_nm, mi_10, ni_10, mi_30, ni_30, mi_31, ni_31, mi_32, ni_32, mi_33, ml_33, nl_33, mi_34, ni_34, mi_35, ml_35, nl_35, mi_36, ni_36, mi_37, ni_37, mi_38, ni_38, l_X12_isChannel, l_X12_sum_14]
  try rfl
theorem l_X12_mean_43 {C : Mem} {x1 : Int32} {x3 : Int32} {xs0 : Int32} {xs1 : Int32} {M : Mem} : f_X12_mean_43  x1 x3 xs0 xs1 (mix C M) = mq C (f_X12_mean_43  x1 x3 xs0 xs1 M) := by
  unfold f_X12_mean_43
  simp (maxSteps := 4000000) (disch := assumption) only [mq_none, mq_some, mq_ite, mq_bnd, bnd_mq, mq_nm, mi_10, ni_10, mi_30, ni_30, mi_31, ni_31, mi_32, ni_32, mi_33, ml_33, nl_33, mi_34, ni_34, mi_35, ml_35, nl_35, mi_36, ni_36, mi_37, ni_37, mi_38, ni_38, l_X12_fails]
  try rfl
theorem l_X12_mean_34 {C : Mem} {x1 : Int32} {x3 : Int32} {xs0 : Int32} {M : Mem} : f_X12_mean_34  x1 x3 xs0 (mix C M) = mq C (f_X12_mean_34  x1 x3 xs0 M) := by
  unfold f_X12_mean_34
  simp (maxSteps := 4000000) (disch := assumption) only [mq_none, mq_some, mq_ite, mq_bnd, bnd_mq, mq_nm, mi_10, ni_10, mi_30, ni_30, mi_31, ni_31, mi_32, ni_32, mi_33, ml_33, nl_33, mi_34, ni_34, mi_35, ml_35, nl_35, mi_36, ni_36, mi_37, ni_37, mi_38, ni_38, l_X12_mean_43]
  try rfl
theorem l_X12_mean_23 {C : Mem} {x1 : Int32} {x2 : Int32} {xs0 : Int32} {M : Mem} : f_X12_mean_23  x1 x2 xs0 (mix C M) = mq C (f_X12_mean_23  x1 x2 xs0 M) := by
  unfold f_X12_mean_23
  simp (maxSteps := 4000000) (disch := assumption) only [mq_none, mq_some, mq_ite, mq_bnd, bnd_mq, mq_nm, mi_10, ni_10, mi_30, ni_30, mi_31, ni_31, mi_32, ni_32, mi_33, ml_33, nl_33, mi_34, ni_34, mi_35, ml_35, nl_35, mi_36, ni_36, mi_37, ni_37, mi_38, ni_38, l_X12_mean_34]
  try rfl
theorem l_X12_mean {C : Mem} {x1 : Int32} {M : Mem} : f_X12_mean  x1 (mix C M) = mq C (f_X12_mean  x1 M) := by
  unfold f_X12_mean
  simp (maxSteps := 4000000) (disch := assumption) only [mq_none, mq_some, mq_ite, mq_bnd, bnd_mq, mq_nm, mi_10, ni_10, mi_30, ni_30, mi_31, ni_31, mi_32, ni_32, mi_33, ml_33, nl_33, mi_34, ni_34, mi_35, ml_35, nl_35, mi_36, ni_36, mi_37, ni_37, mi_38, ni_38, l_X12_chan, l_X12_isChannel, l_X12_its, l_X12_mean_23]
  try rfl
theorem l_X12_trigger_28 {C : Mem} {x1 : Int32} {x2 : Int32} {xs0 : Int32} {xs1 : Int32} {M : Mem} : f_X12_trigger_28  x1 x2 xs0 xs1 (mix C M) = mq C (f_X12_trigger_28  x1 x2 xs0 xs1 M) := by
  unfold f_X12_trigger_28
  simp (maxSteps := 4000000) (disch := assumption) only [mq_none, mq_some, mq_ite, mq_bnd, bnd_mq, mq_nm, mi_10, ni_10, mi_30, ni_30, mi_31, ni_31, mi_32, ni_32, mi_33, ml_33, nl_33, mi_34, ni_34, mi_35, ml_35, nl_35, mi_36, ni_36, mi_37, ni_37, mi_38, ni_38, l_X12_fails, l_X12_its, l_X12_trig]
  try rfl
theorem l_X12_trigger_14 {C : Mem} {x1 : Int32} {x2 : Int32} {xs0 : Int32} {M : Mem} : f_X12_trigger_14  x1 x2 xs0 (mix C M) = mq C (f_X12_trigger_14  x1 x2 xs0 M) := by
  unfold f_X12_trigger_14
  simp (maxSteps := 4000000) (disch := assumption) only [mq_none, mq_some, mq_ite, mq_bnd, bnd_mq, mq_nm, mi_10, ni_10, mi_30, ni_30, mi_31, ni_31, mi_32, ni_32, mi_33, ml_33, nl_33, mi_34, ni_34, mi_35, ml_35, nl_35, mi_36, ni_36, mi_37, ni_37, mi_38, ni_38, l_X12_inRange, l_X12_trigger_28]
  try rfl
theorem l_X12_trigger {C : Mem} {x1 : Int32} {x2 : Int32} {M : Mem} : f_X12_trigger  x1 x2 (mix C M) = mq C (f_X12_trigger  x1 x2 M) := by
  unfold f_X12_trigger
  simp (maxSteps := 4000000) (disch := assumption) only [mq_none, mq_some, mq_ite, mq_bnd, bnd_mq, mq_nm, mi_10, ni_10, mi_30, ni_30, mi_31, ni_31, mi_32, ni_32, mi_33, ml_33, nl_33, mi_34, ni_34, mi_35, ml_35, nl_35, mi_36, ni_36, mi_37, ni_37, mi_38, ni_38, l_X12_isTrigger, l_X12_trigger_14]
  try rfl
theorem l_X12_window_56 {C : Mem} {x1 : Int32} {x2 : Int32} {xs0 : Int32} {M : Mem} : f_X12_window_56  x1 x2 xs0 (mix C M) = mq C (f_X12_window_56  x1 x2 xs0 M) := by
  unfold f_X12_window_56
  simp (maxSteps := 4000000) (disch := assumption) only [mq_none, mq_some, mq_ite, mq_bnd, bnd_mq, mq_nm, mi_10, ni_10, mi_30, ni_30, mi_31, ni_31, mi_32, ni_32, mi_33, ml_33, nl_33, mi_34, ni_34, mi_35, ml_35, nl_35, mi_36, ni_36, mi_37, ni_37, mi_38, ni_38, l_X12_its, l_X12_win]
  try rfl
theorem l_X12_window_29 {C : Mem} {x1 : Int32} {x2 : Int32} {xs0 : Int32} {xs1 : Int32} {M : Mem} : f_X12_window_29  x1 x2 xs0 xs1 (mix C M) = mq C (f_X12_window_29  x1 x2 xs0 xs1 M) := by
  unfold f_X12_window_29
  simp (maxSteps := 4000000) (disch := assumption) only [mq_none, mq_some, mq_ite, mq_bnd, bnd_mq, mq_nm, mi_10, ni_10, mi_30, ni_30, mi_31, ni_31, mi_32, ni_32, mi_33, ml_33, nl_33, mi_34, ni_34, mi_35, ml_35, nl_35, mi_36, ni_36, mi_37, ni_37, mi_38, ni_38, l_X12_fails, l_X12_its, l_X12_win, l_X12_window_56]
  try rfl
theorem l_X12_window_14 {C : Mem} {x1 : Int32} {x2 : Int32} {xs0 : Int32} {M : Mem} : f_X12_window_14  x1 x2 xs0 (mix C M) = mq C (f_X12_window_14  x1 x2 xs0 M) := by
  unfold f_X12_window_14
  simp (maxSteps := 4000000) (disch := assumption) only [mq_none, mq_some, mq_ite, mq_bnd, bnd_mq, mq_nm, mi_10, ni_10, mi_30, ni_30, mi_31, ni_31, mi_32, ni_32, mi_33, ml_33, nl_33, mi_34, ni_34, mi_35, ml_35, nl_35, mi_36, ni_36, mi_37, ni_37, mi_38, ni_38, l_X12_inRange, l_X12_window_29]
  try rfl
theorem l_X12_window {C : Mem} {x1 : Int32} {x2 : Int32} {M : Mem} : f_X12_window  x1 x2 (mix C M) = mq C (f_X12_window  x1 x2 M) := by
  unfold f_X12_window
  simp (maxSteps := 4000000) (disch := assumption) only [mq_none, mq_some, mq_ite, mq_bnd, bnd_mq, mq_nm, mi_10, ni_10, mi_30, ni_30, mi_31, ni_31, mi_32, ni_32, mi_33, ml_33, nl_33, mi_34, ni_34, mi_35, ml_35, nl_35, mi_36, ni_36, mi_37, ni_37, mi_38, ni_38, l_X12_isWindow, l_X12_window_14]
  try rfl
theorem l_X12_signal_23 {C : Mem} {x1 : Int32} {x2 : Int32} {xs0 : Int32} {xs1 : Int32} {M : Mem} : f_X12_signal_23  x1 x2 xs0 xs1 (mix C M) = mq C (f_X12_signal_23  x1 x2 xs0 xs1 M) := by
  unfold f_X12_signal_23
  simp (maxSteps := 4000000) (disch := assumption) only [mq_none, mq_some, mq_ite, mq_bnd, bnd_mq, mq_nm, mi_10, ni_10, mi_30, ni_30, mi_31, ni_31, mi_32, ni_32, mi_33, ml_33, nl_33, mi_34, ni_34, mi_35, ml_35, nl_35, mi_36, ni_36, mi_37, ni_37, mi_38, ni_38, l_X12_fails, l_X12_signalOf]
  try rfl
theorem l_X12_signal_14 {C : Mem} {x1 : Int32} {x2 : Int32} {xs0 : Int32} {M : Mem} : f_X12_signal_14  x1 x2 xs0 (mix C M) = mq C (f_X12_signal_14  x1 x2 xs0 M) := by
  unfold f_X12_signal_14
  simp (maxSteps := 4000000) (disch := assumption) only [mq_none, mq_some, mq_ite, mq_bnd, bnd_mq, mq_nm, mi_10, ni_10, mi_30, ni_30, mi_31, ni_31, mi_32, ni_32, mi_33, ml_33, nl_33, mi_34, ni_34, mi_35, ml_35, nl_35, mi_36, ni_36, mi_37, ni_37, mi_38, ni_38, l_X12_signal_23]
  try rfl
theorem l_X12_signal {C : Mem} {x1 : Int32} {x2 : Int32} {M : Mem} : f_X12_signal  x1 x2 (mix C M) = mq C (f_X12_signal  x1 x2 M) := by
  unfold f_X12_signal
  simp (maxSteps := 4000000) (disch := assumption) only [mq_none, mq_some, mq_ite, mq_bnd, bnd_mq, mq_nm, mi_10, ni_10, mi_30, ni_30, mi_31, ni_31, mi_32, ni_32, mi_33, ml_33, nl_33, mi_34, ni_34, mi_35, ml_35, nl_35, mi_36, ni_36, mi_37, ni_37, mi_38, ni_38, l_X12_isChannel, l_X12_signal_14]
  try rfl
theorem l_X12_queued_36 {C : Mem} {x1 : Int32} {x2 : Int32} {xs0 : Int32} {xs1 : Int32} {M : Mem} : f_X12_queued_36  x1 x2 xs0 xs1 (mix C M) = mq C (f_X12_queued_36  x1 x2 xs0 xs1 M) := by
  unfold f_X12_queued_36
  simp (maxSteps := 4000000) (disch := assumption) only [mq_none, mq_some, mq_ite, mq_bnd, bnd_mq, mq_nm, mi_10, ni_10, mi_30, ni_30, mi_31, ni_31, mi_32, ni_32, mi_33, ml_33, nl_33, mi_34, ni_34, mi_35, ml_35, nl_35, mi_36, ni_36, mi_37, ni_37, mi_38, ni_38, l_X12_fails, l_X12_its]
  try rfl
theorem l_X12_queued_22 {C : Mem} {x1 : Int32} {x2 : Int32} {xs0 : Int32} {M : Mem} : f_X12_queued_22  x1 x2 xs0 (mix C M) = mq C (f_X12_queued_22  x1 x2 xs0 M) := by
  unfold f_X12_queued_22
  simp (maxSteps := 4000000) (disch := assumption) only [mq_none, mq_some, mq_ite, mq_bnd, bnd_mq, mq_nm, mi_10, ni_10, mi_30, ni_30, mi_31, ni_31, mi_32, ni_32, mi_33, ml_33, nl_33, mi_34, ni_34, mi_35, ml_35, nl_35, mi_36, ni_36, mi_37, ni_37, mi_38, ni_38, l_X12_inRange, l_X12_queued_36]
  try rfl
theorem l_X12_queued {C : Mem} {x1 : Int32} {x2 : Int32} {M : Mem} : f_X12_queued  x1 x2 (mix C M) = mq C (f_X12_queued  x1 x2 M) := by
  unfold f_X12_queued
  simp (maxSteps := 4000000) (disch := assumption) only [mq_none, mq_some, mq_ite, mq_bnd, bnd_mq, mq_nm, mi_10, ni_10, mi_30, ni_30, mi_31, ni_31, mi_32, ni_32, mi_33, ml_33, nl_33, mi_34, ni_34, mi_35, ml_35, nl_35, mi_36, ni_36, mi_37, ni_37, mi_38, ni_38, l_X12_inRange, l_X12_its, l_X12_queued_22]
  try rfl
theorem l_X12_stored_36 {C : Mem} {x1 : Int32} {x2 : Int32} {xs0 : Int32} {xs1 : Int32} {M : Mem} : f_X12_stored_36  x1 x2 xs0 xs1 (mix C M) = mq C (f_X12_stored_36  x1 x2 xs0 xs1 M) := by
  unfold f_X12_stored_36
  simp (maxSteps := 4000000) (disch := assumption) only [mq_none, mq_some, mq_ite, mq_bnd, bnd_mq, mq_nm, mi_10, ni_10, mi_30, ni_30, mi_31, ni_31, mi_32, ni_32, mi_33, ml_33, nl_33, mi_34, ni_34, mi_35, ml_35, nl_35, mi_36, ni_36, mi_37, ni_37, mi_38, ni_38, l_X12_fails, l_X12_its]
  try rfl
theorem l_X12_stored_22 {C : Mem} {x1 : Int32} {x2 : Int32} {xs0 : Int32} {M : Mem} : f_X12_stored_22  x1 x2 xs0 (mix C M) = mq C (f_X12_stored_22  x1 x2 xs0 M) := by
  unfold f_X12_stored_22
  simp (maxSteps := 4000000) (disch := assumption) only [mq_none, mq_some, mq_ite, mq_bnd, bnd_mq, mq_nm, mi_10, ni_10, mi_30, ni_30, mi_31, ni_31, mi_32, ni_32, mi_33, ml_33, nl_33, mi_34, ni_34, mi_35, ml_35, nl_35, mi_36, ni_36, mi_37, ni_37, mi_38, ni_38, l_X12_inRange, l_X12_stored_36]
  try rfl
theorem l_X12_stored {C : Mem} {x1 : Int32} {x2 : Int32} {M : Mem} : f_X12_stored  x1 x2 (mix C M) = mq C (f_X12_stored  x1 x2 M) := by
  unfold f_X12_stored
  simp (maxSteps := 4000000) (disch := assumption) only [mq_none, mq_some, mq_ite, mq_bnd, bnd_mq, mq_nm, mi_10, ni_10, mi_30, ni_30, mi_31, ni_31, mi_32, ni_32, mi_33, ml_33, nl_33, mi_34, ni_34, mi_35, ml_35, nl_35, mi_36, ni_36, mi_37, ni_37, mi_38, ni_38, l_X12_inRange, l_X12_its, l_X12_stored_22]
  try rfl
theorem l_X12_memorySize {C : Mem} {M : Mem} : f_X12_memorySize (mix C M) = mq C (f_X12_memorySize   M) := by
  unfold f_X12_memorySize
  simp (maxSteps := 4000000) (disch := assumption) only [mq_none, mq_some, mq_ite, mq_bnd, bnd_mq, mq_nm, mi_10, ni_10, mi_30, ni_30, mi_31, ni_31, mi_32, ni_32, mi_33, ml_33, nl_33, mi_34, ni_34, mi_35, ml_35, nl_35, mi_36, ni_36, mi_37, ni_37, mi_38, ni_38, l_X12_its]
  try rfl
theorem l_X12_injected_60 {C : Mem} {x1 : Int32} {x2 : Int32} {xs0 : Int32} {xs1 : Int32} {xs2 : Int32} {M : Mem} : f_X12_injected_60  x1 x2 xs0 xs1 xs2 (mix C M) = mq C (f_X12_injected_60  x1 x2 xs0 xs1 xs2 M) := by
  unfold f_X12_injected_60
  simp (maxSteps := 4000000) (disch := assumption) only [mq_none, mq_some, mq_ite, mq_bnd, bnd_mq, mq_nm, mi_10, ni_10, mi_30, ni_30, mi_31, ni_31, mi_32, ni_32, mi_33, ml_33, nl_33, mi_34, ni_34, mi_35, ml_35, nl_35, mi_36, ni_36, mi_37, ni_37, mi_38, ni_38, l_X12_fails, l_X12_its]
  try rfl
theorem l_X12_injected_59 {C : Mem} {x1 : Int32} {x2 : Int32} {xs0 : Int32} {xs1 : Int32} {M : Mem} : f_X12_injected_59  x1 x2 xs0 xs1 (mix C M) = mq C (f_X12_injected_59  x1 x2 xs0 xs1 M) := by
  unfold f_X12_injected_59
  simp (maxSteps := 4000000) (disch := assumption) only [mq_none, mq_some, mq_ite, mq_bnd, bnd_mq, mq_nm, mi_10, ni_10, mi_30, ni_30, mi_31, ni_31, mi_32, ni_32, mi_33, ml_33, nl_33, mi_34, ni_34, mi_35, ml_35, nl_35, mi_36, ni_36, mi_37, ni_37, mi_38, ni_38, l_X12_injected_60]
  try rfl
theorem l_X12_injected_37 {C : Mem} {x1 : Int32} {x2 : Int32} {x3 : Int32} {xs0 : Int32} {xs1 : Int32} {M : Mem} : f_X12_injected_37  x1 x2 x3 xs0 xs1 (mix C M) = mq C (f_X12_injected_37  x1 x2 x3 xs0 xs1 M) := by
  unfold f_X12_injected_37
  simp (maxSteps := 4000000) (disch := assumption) only [mq_none, mq_some, mq_ite, mq_bnd, bnd_mq, mq_nm, mi_10, ni_10, mi_30, ni_30, mi_31, ni_31, mi_32, ni_32, mi_33, ml_33, nl_33, mi_34, ni_34, mi_35, ml_35, nl_35, mi_36, ni_36, mi_37, ni_37, mi_38, ni_38, l_X12_injected_59, l_X12_injected_60, l_X12_its]
  try rfl
theorem l_X12_injected_23 {C : Mem} {x1 : Int32} {x2 : Int32} {x3 : Int32} {xs0 : Int32} {M : Mem} : f_X12_injected_23  x1 x2 x3 xs0 (mix C M) = mq C (f_X12_injected_23  x1 x2 x3 xs0 M) := by
  unfold f_X12_injected_23
  simp (maxSteps := 4000000) (disch := assumption) only [mq_none, mq_some, mq_ite, mq_bnd, bnd_mq, mq_nm, mi_10, ni_10, mi_30, ni_30, mi_31, ni_31, mi_32, ni_32, mi_33, ml_33, nl_33, mi_34, ni_34, mi_35, ml_35, nl_35, mi_36, ni_36, mi_37, ni_37, mi_38, ni_38, l_X12_inRange, l_X12_injected_37]
  try rfl
theorem l_X12_injected {C : Mem} {x1 : Int32} {x2 : Int32} {M : Mem} : f_X12_injected  x1 x2 (mix C M) = mq C (f_X12_injected  x1 x2 M) := by
  unfold f_X12_injected
  simp (maxSteps := 4000000) (disch := assumption) only [mq_none, mq_some, mq_ite, mq_bnd, bnd_mq, mq_nm, mi_10, ni_10, mi_30, ni_30, mi_31, ni_31, mi_32, ni_32, mi_33, ml_33, nl_33, mi_34, ni_34, mi_35, ml_35, nl_35, mi_36, ni_36, mi_37, ni_37, mi_38, ni_38, l_X12_entries, l_X12_inRange, l_X12_injected_23]
  try rfl
theorem l_X12_latency_30 {C : Mem} {x2 : Int32} {x3 : Int32} {xs0 : Int32} {M : Mem} : f_X12_latency_30  x2 x3 xs0 (mix C M) = mq C (f_X12_latency_30  x2 x3 xs0 M) := by
  unfold f_X12_latency_30
  simp (maxSteps := 4000000) (disch := assumption) only [mq_none, mq_some, mq_ite, mq_bnd, bnd_mq, mq_nm, mi_10, ni_10, mi_30, ni_30, mi_31, ni_31, mi_32, ni_32, mi_33, ml_33, nl_33, mi_34, ni_34, mi_35, ml_35, nl_35, mi_36, ni_36, mi_37, ni_37, mi_38, ni_38, l_X12_fails]
  try rfl
theorem l_X12_latency_9 {C : Mem} {xs0 : Int32} {M : Mem} : f_X12_latency_9  xs0 (mix C M) = mq C (f_X12_latency_9  xs0 M) := by
  unfold f_X12_latency_9
  simp (maxSteps := 4000000) (disch := assumption) only [mq_none, mq_some, mq_ite, mq_bnd, bnd_mq, mq_nm, mi_10, ni_10, mi_30, ni_30, mi_31, ni_31, mi_32, ni_32, mi_33, ml_33, nl_33, mi_34, ni_34, mi_35, ml_35, nl_35, mi_36, ni_36, mi_37, ni_37, mi_38, ni_38, l_X12_its, l_X12_latency_30, l_X12_seq]
  try rfl
theorem l_X12_latency {C : Mem} {x1 : Int32} {M : Mem} : f_X12_latency  x1 (mix C M) = mq C (f_X12_latency  x1 M) := by
  unfold f_X12_latency
  simp (maxSteps := 4000000) (disch := assumption) only [mq_none, mq_some, mq_ite, mq_bnd, bnd_mq, mq_nm, mi_10, ni_10, mi_30, ni_30, mi_31, ni_31, mi_32, ni_32, mi_33, ml_33, nl_33, mi_34, ni_34, mi_35, ml_35, nl_35, mi_36, ni_36, mi_37, ni_37, mi_38, ni_38, l_X12_latency_9]
  try rfl
theorem l_X12_beginTrial {C : Mem} {M : Mem} : f_X12_beginTrial (mix C M) = mq C (f_X12_beginTrial   M) := by
  unfold f_X12_beginTrial
  simp (maxSteps := 4000000) (disch := assumption) only [mq_none, mq_some, mq_ite, mq_bnd, bnd_mq, mq_nm, mi_10, ni_10, mi_30, ni_30, mi_31, ni_31, mi_32, ni_32, mi_33, ml_33, nl_33, mi_34, ni_34, mi_35, ml_35, nl_35, mi_36, ni_36, mi_37, ni_37, mi_38, ni_38, l_X12_copyBlock]
  try rfl
theorem l_X12_endTrial {C : Mem} {x1 : Int32} {M : Mem} : f_X12_endTrial  x1 (mix C M) = mq C (f_X12_endTrial  x1 M) := by
  unfold f_X12_endTrial
  simp (maxSteps := 4000000) (disch := assumption) only [mq_none, mq_some, mq_ite, mq_bnd, bnd_mq, mq_nm, mi_10, ni_10, mi_30, ni_30, mi_31, ni_31, mi_32, ni_32, mi_33, ml_33, nl_33, mi_34, ni_34, mi_35, ml_35, nl_35, mi_36, ni_36, mi_37, ni_37, mi_38, ni_38]
  try rfl
theorem l_X12_nextResult_65 {C : Mem} {x2 : Int32} {M : Mem} : f_X12_nextResult_65  x2 (mix C M) = mq C (f_X12_nextResult_65  x2 M) := by
  unfold f_X12_nextResult_65
  simp (maxSteps := 4000000) (disch := assumption) only [mq_none, mq_some, mq_ite, mq_bnd, bnd_mq, mq_nm, mi_10, ni_10, mi_30, ni_30, mi_31, ni_31, mi_32, ni_32, mi_33, ml_33, nl_33, mi_34, ni_34, mi_35, ml_35, nl_35, mi_36, ni_36, mi_37, ni_37, mi_38, ni_38, l_X12_endTrial, l_X12_its]
  try rfl
theorem l_X12_nextResult_40 {C : Mem} : ∀ (n : Nat) (x1 : Int32) (x2 : Int32) (x3 : Int32) (M : Mem), f_X12_nextResult_40  n x1 x2 x3 (mix C M) = mq C (f_X12_nextResult_40  n x1 x2 x3 M) := by
  intro n
  induction n with
  | zero => intro x1 x2 x3 M; rfl
  | succ n ih =>
    intro x1 x2 x3 M
    unfold f_X12_nextResult_40
    simp (maxSteps := 4000000) (disch := assumption) only [mq_none, mq_some, mq_ite, mq_bnd, bnd_mq, mq_nm, mi_10, ni_10, mi_30, ni_30, mi_31, ni_31, mi_32, ni_32, mi_33, ml_33, nl_33, mi_34, ni_34, mi_35, ml_35, nl_35, mi_36, ni_36, mi_37, ni_37, mi_38, ni_38, l_X12_its, l_X12_nextResult_65, l_X12_passCycle, ih]
    try rfl
theorem l_X12_nextResult_17 {C : Mem} {x1 : Int32} {xs0 : Int32} {M : Mem} : f_X12_nextResult_17  x1 xs0 (mix C M) = mq C (f_X12_nextResult_17  x1 xs0 M) := by
  unfold f_X12_nextResult_17
  simp (maxSteps := 4000000) (disch := assumption) only [mq_none, mq_some, mq_ite, mq_bnd, bnd_mq, mq_nm, mi_10, ni_10, mi_30, ni_30, mi_31, ni_31, mi_32, ni_32, mi_33, ml_33, nl_33, mi_34, ni_34, mi_35, ml_35, nl_35, mi_36, ni_36, mi_37, ni_37, mi_38, ni_38, l_X12_beginTrial, l_X12_fails, l_X12_its, l_X12_nextResult_40]
  try rfl
theorem l_X12_nextResult {C : Mem} {x1 : Int32} {M : Mem} : f_X12_nextResult  x1 (mix C M) = mq C (f_X12_nextResult  x1 M) := by
  unfold f_X12_nextResult
  simp (maxSteps := 4000000) (disch := assumption) only [mq_none, mq_some, mq_ite, mq_bnd, bnd_mq, mq_nm, mi_10, ni_10, mi_30, ni_30, mi_31, ni_31, mi_32, ni_32, mi_33, ml_33, nl_33, mi_34, ni_34, mi_35, ml_35, nl_35, mi_36, ni_36, mi_37, ni_37, mi_38, ni_38, l_X12_inRange, l_X12_nextResult_17]
  try rfl
theorem l_X12_whenRaised_87 {C : Mem} {x1 : Int32} {M : Mem} : f_X12_whenRaised_87  x1 (mix C M) = mq C (f_X12_whenRaised_87  x1 M) := by
  unfold f_X12_whenRaised_87
  simp (maxSteps := 4000000) (disch := assumption) only [mq_none, mq_some, mq_ite, mq_bnd, bnd_mq, mq_nm, mi_10, ni_10, mi_30, ni_30, mi_31, ni_31, mi_32, ni_32, mi_33, ml_33, nl_33, mi_34, ni_34, mi_35, ml_35, nl_35, mi_36, ni_36, mi_37, ni_37, mi_38, ni_38, l_X12_endTrial, l_X12_its, l_X12_win]
  try rfl
theorem l_X12_whenRaised_60 {C : Mem} : ∀ (n : Nat) (x1 : Int32) (x2 : Int32) (x3 : Int32) (M : Mem), f_X12_whenRaised_60  n x1 x2 x3 (mix C M) = mq C (f_X12_whenRaised_60  n x1 x2 x3 M) := by
  intro n
  induction n with
  | zero => intro x1 x2 x3 M; rfl
  | succ n ih =>
    intro x1 x2 x3 M
    unfold f_X12_whenRaised_60
    simp (maxSteps := 4000000) (disch := assumption) only [mq_none, mq_some, mq_ite, mq_bnd, bnd_mq, mq_nm, mi_10, ni_10, mi_30, ni_30, mi_31, ni_31, mi_32, ni_32, mi_33, ml_33, nl_33, mi_34, ni_34, mi_35, ml_35, nl_35, mi_36, ni_36, mi_37, ni_37, mi_38, ni_38, l_X12_its, l_X12_passCycle, l_X12_whenRaised_87, l_X12_win, ih]
    try rfl
theorem l_X12_whenRaised_30 {C : Mem} {x1 : Int32} {x2 : Int32} {xs0 : Int32} {xs1 : Int32} {M : Mem} : f_X12_whenRaised_30  x1 x2 xs0 xs1 (mix C M) = mq C (f_X12_whenRaised_30  x1 x2 xs0 xs1 M) := by
  unfold f_X12_whenRaised_30
  simp (maxSteps := 4000000) (disch := assumption) only [mq_none, mq_some, mq_ite, mq_bnd, bnd_mq, mq_nm, mi_10, ni_10, mi_30, ni_30, mi_31, ni_31, mi_32, ni_32, mi_33, ml_33, nl_33, mi_34, ni_34, mi_35, ml_35, nl_35, mi_36, ni_36, mi_37, ni_37, mi_38, ni_38, l_X12_beginTrial, l_X12_fails, l_X12_its, l_X12_whenRaised_60, l_X12_win]
  try rfl
theorem l_X12_whenRaised_14 {C : Mem} {x1 : Int32} {x2 : Int32} {xs0 : Int32} {M : Mem} : f_X12_whenRaised_14  x1 x2 xs0 (mix C M) = mq C (f_X12_whenRaised_14  x1 x2 xs0 M) := by
  unfold f_X12_whenRaised_14
  simp (maxSteps := 4000000) (disch := assumption) only [mq_none, mq_some, mq_ite, mq_bnd, bnd_mq, mq_nm, mi_10, ni_10, mi_30, ni_30, mi_31, ni_31, mi_32, ni_32, mi_33, ml_33, nl_33, mi_34, ni_34, mi_35, ml_35, nl_35, mi_36, ni_36, mi_37, ni_37, mi_38, ni_38, l_X12_inRange, l_X12_whenRaised_30]
  try rfl
theorem l_X12_whenRaised {C : Mem} {x1 : Int32} {x2 : Int32} {M : Mem} : f_X12_whenRaised  x1 x2 (mix C M) = mq C (f_X12_whenRaised  x1 x2 M) := by
  unfold f_X12_whenRaised
  simp (maxSteps := 4000000) (disch := assumption) only [mq_none, mq_some, mq_ite, mq_bnd, bnd_mq, mq_nm, mi_10, ni_10, mi_30, ni_30, mi_31, ni_31, mi_32, ni_32, mi_33, ml_33, nl_33, mi_34, ni_34, mi_35, ml_35, nl_35, mi_36, ni_36, mi_37, ni_37, mi_38, ni_38, l_X12_isWindow, l_X12_whenRaised_14]
  try rfl
theorem l_X12_overrunsAt_21 {C : Mem} : ∀ (n : Nat) (x2 : Int32) (x3 : Int32) (x4 : Int32) (M : Mem), f_X12_overrunsAt_21  n x2 x3 x4 (mix C M) = mq C (f_X12_overrunsAt_21  n x2 x3 x4 M) := by
  intro n
  induction n with
  | zero => intro x2 x3 x4 M; rfl
  | succ n ih =>
    intro x2 x3 x4 M
    unfold f_X12_overrunsAt_21
    simp (maxSteps := 4000000) (disch := assumption) only [mq_none, mq_some, mq_ite, mq_bnd, bnd_mq, mq_nm, mi_10, ni_10, mi_30, ni_30, mi_31, ni_31, mi_32, ni_32, mi_33, ml_33, nl_33, mi_34, ni_34, mi_35, ml_35, nl_35, mi_36, ni_36, mi_37, ni_37, mi_38, ni_38, l_X12_endTrial, l_X12_its, l_X12_passCycle, ih]
    try rfl
theorem l_X12_overrunsAt {C : Mem} {x1 : Int32} {x2 : Int32} {M : Mem} : f_X12_overrunsAt  x1 x2 (mix C M) = mq C (f_X12_overrunsAt  x1 x2 M) := by
  unfold f_X12_overrunsAt
  simp (maxSteps := 4000000) (disch := assumption) only [mq_none, mq_some, mq_ite, mq_bnd, bnd_mq, mq_nm, mi_10, ni_10, mi_30, ni_30, mi_31, ni_31, mi_32, ni_32, mi_33, ml_33, nl_33, mi_34, ni_34, mi_35, ml_35, nl_35, mi_36, ni_36, mi_37, ni_37, mi_38, ni_38, l_X12_beginTrial, l_X12_its, l_X12_overrunsAt_21, l_X12_puts]
  try rfl
theorem l_X12_overrunsWith_28 {C : Mem} {x1 : Int32} {x2 : Int32} {xs0 : Int32} {M : Mem} : f_X12_overrunsWith_28  x1 x2 xs0 (mix C M) = mq C (f_X12_overrunsWith_28  x1 x2 xs0 M) := by
  unfold f_X12_overrunsWith_28
  simp (maxSteps := 4000000) (disch := assumption) only [mq_none, mq_some, mq_ite, mq_bnd, bnd_mq, mq_nm, mi_10, ni_10, mi_30, ni_30, mi_31, ni_31, mi_32, ni_32, mi_33, ml_33, nl_33, mi_34, ni_34, mi_35, ml_35, nl_35, mi_36, ni_36, mi_37, ni_37, mi_38, ni_38, l_X12_fails, l_X12_overrunsAt]
  try rfl
theorem l_X12_overrunsWith_23 {C : Mem} {x1 : Int32} {x2 : Int32} {M : Mem} : f_X12_overrunsWith_23  x1 x2 (mix C M) = mq C (f_X12_overrunsWith_23  x1 x2 M) := by
  unfold f_X12_overrunsWith_23
  simp (maxSteps := 4000000) (disch := assumption) only [mq_none, mq_some, mq_ite, mq_bnd, bnd_mq, mq_nm, mi_10, ni_10, mi_30, ni_30, mi_31, ni_31, mi_32, ni_32, mi_33, ml_33, nl_33, mi_34, ni_34, mi_35, ml_35, nl_35, mi_36, ni_36, mi_37, ni_37, mi_38, ni_38, l_X12_overrunsWith_28]
  try rfl
theorem l_X12_overrunsWith {C : Mem} {x1 : Int32} {x2 : Int32} {M : Mem} : f_X12_overrunsWith  x1 x2 (mix C M) = mq C (f_X12_overrunsWith  x1 x2 M) := by
  unfold f_X12_overrunsWith
  simp (maxSteps := 4000000) (disch := assumption) only [mq_none, mq_some, mq_ite, mq_bnd, bnd_mq, mq_nm, mi_10, ni_10, mi_30, ni_30, mi_31, ni_31, mi_32, ni_32, mi_33, ml_33, nl_33, mi_34, ni_34, mi_35, ml_35, nl_35, mi_36, ni_36, mi_37, ni_37, mi_38, ni_38, l_X12_inRange, l_X12_overrunsWith_23, l_X12_overrunsWith_28]
  try rfl
theorem l_X12_slowestPace_30 {C : Mem} : ∀ (n : Nat) (x1 : Int32) (x2 : Int32) (M : Mem), f_X12_slowestPace_30  n x1 x2 (mix C M) = mq C (f_X12_slowestPace_30  n x1 x2 M) := by
  intro n
  induction n with
  | zero => intro x1 x2 M; rfl
  | succ n ih =>
    intro x1 x2 M
    unfold f_X12_slowestPace_30
    simp (maxSteps := 4000000) (disch := assumption) only [mq_none, mq_some, mq_ite, mq_bnd, bnd_mq, mq_nm, mi_10, ni_10, mi_30, ni_30, mi_31, ni_31, mi_32, ni_32, mi_33, ml_33, nl_33, mi_34, ni_34, mi_35, ml_35, nl_35, mi_36, ni_36, mi_37, ni_37, mi_38, ni_38, l_X12_overrunsAt, ih]
    try rfl
theorem l_X12_slowestPace_17 {C : Mem} {x1 : Int32} {xs0 : Int32} {M : Mem} : f_X12_slowestPace_17  x1 xs0 (mix C M) = mq C (f_X12_slowestPace_17  x1 xs0 M) := by
  unfold f_X12_slowestPace_17
  simp (maxSteps := 4000000) (disch := assumption) only [mq_none, mq_some, mq_ite, mq_bnd, bnd_mq, mq_nm, mi_10, ni_10, mi_30, ni_30, mi_31, ni_31, mi_32, ni_32, mi_33, ml_33, nl_33, mi_34, ni_34, mi_35, ml_35, nl_35, mi_36, ni_36, mi_37, ni_37, mi_38, ni_38, l_X12_fails, l_X12_slowestPace_30]
  try rfl
theorem l_X12_slowestPace {C : Mem} {x1 : Int32} {M : Mem} : f_X12_slowestPace  x1 (mix C M) = mq C (f_X12_slowestPace  x1 M) := by
  unfold f_X12_slowestPace
  simp (maxSteps := 4000000) (disch := assumption) only [mq_none, mq_some, mq_ite, mq_bnd, bnd_mq, mq_nm, mi_10, ni_10, mi_30, ni_30, mi_31, ni_31, mi_32, ni_32, mi_33, ml_33, nl_33, mi_34, ni_34, mi_35, ml_35, nl_35, mi_36, ni_36, mi_37, ni_37, mi_38, ni_38, l_X12_inRange, l_X12_slowestPace_17]
  try rfl
theorem l_X12_passLength_20 {C : Mem} : ∀ (n : Nat) (x2 : Int32) (x3 : Int32) (x4 : Int32) (M : Mem), f_X12_passLength_20  n x2 x3 x4 (mix C M) = mq C (f_X12_passLength_20  n x2 x3 x4 M) := by
  intro n
  induction n with
  | zero => intro x2 x3 x4 M; rfl
  | succ n ih =>
    intro x2 x3 x4 M
    unfold f_X12_passLength_20
    simp (maxSteps := 4000000) (disch := assumption) only [mq_none, mq_some, mq_ite, mq_bnd, bnd_mq, mq_nm, mi_10, ni_10, mi_30, ni_30, mi_31, ni_31, mi_32, ni_32, mi_33, ml_33, nl_33, mi_34, ni_34, mi_35, ml_35, nl_35, mi_36, ni_36, mi_37, ni_37, mi_38, ni_38, l_X12_chan, l_X12_entries, l_X12_entryOf, l_X12_its, ih]
    try rfl
theorem l_X12_passLength_14 {C : Mem} {xs0 : Int32} {M : Mem} : f_X12_passLength_14  xs0 (mix C M) = mq C (f_X12_passLength_14  xs0 M) := by
  unfold f_X12_passLength_14
  simp (maxSteps := 4000000) (disch := assumption) only [mq_none, mq_some, mq_ite, mq_bnd, bnd_mq, mq_nm, mi_10, ni_10, mi_30, ni_30, mi_31, ni_31, mi_32, ni_32, mi_33, ml_33, nl_33, mi_34, ni_34, mi_35, ml_35, nl_35, mi_36, ni_36, mi_37, ni_37, mi_38, ni_38, l_X12_passLength_20]
  try rfl
theorem l_X12_passLength {C : Mem} {x1 : Int32} {M : Mem} : f_X12_passLength  x1 (mix C M) = mq C (f_X12_passLength  x1 M) := by
  unfold f_X12_passLength
  simp (maxSteps := 4000000) (disch := assumption) only [mq_none, mq_some, mq_ite, mq_bnd, bnd_mq, mq_nm, mi_10, ni_10, mi_30, ni_30, mi_31, ni_31, mi_32, ni_32, mi_33, ml_33, nl_33, mi_34, ni_34, mi_35, ml_35, nl_35, mi_36, ni_36, mi_37, ni_37, mi_38, ni_38, l_X12_passLength_14]
  try rfl
theorem l_X12_save_15 {C : Mem} {x1 : Int32} {xs0 : Int32} {M : Mem} : f_X12_save_15  x1 xs0 (mix C M) = mq C (f_X12_save_15  x1 xs0 M) := by
  unfold f_X12_save_15
  simp (maxSteps := 4000000) (disch := assumption) only [mq_none, mq_some, mq_ite, mq_bnd, bnd_mq, mq_nm, mi_10, ni_10, mi_30, ni_30, mi_31, ni_31, mi_32, ni_32, mi_33, ml_33, nl_33, mi_34, ni_34, mi_35, ml_35, nl_35, mi_36, ni_36, mi_37, ni_37, mi_38, ni_38, l_X12_copyBlock, l_X12_fails, l_X12_its]
  try rfl
theorem l_X12_save {C : Mem} {x1 : Int32} {M : Mem} : f_X12_save  x1 (mix C M) = mq C (f_X12_save  x1 M) := by
  unfold f_X12_save
  simp (maxSteps := 4000000) (disch := assumption) only [mq_none, mq_some, mq_ite, mq_bnd, bnd_mq, mq_nm, mi_10, ni_10, mi_30, ni_30, mi_31, ni_31, mi_32, ni_32, mi_33, ml_33, nl_33, mi_34, ni_34, mi_35, ml_35, nl_35, mi_36, ni_36, mi_37, ni_37, mi_38, ni_38, l_X12_inRange, l_X12_save_15]
  try rfl
theorem l_X12_restore_35 {C : Mem} {x1 : Int32} {xs0 : Int32} {xs1 : Int32} {M : Mem} : f_X12_restore_35  x1 xs0 xs1 (mix C M) = mq C (f_X12_restore_35  x1 xs0 xs1 M) := by
  unfold f_X12_restore_35
  simp (maxSteps := 4000000) (disch := assumption) only [mq_none, mq_some, mq_ite, mq_bnd, bnd_mq, mq_nm, mi_10, ni_10, mi_30, ni_30, mi_31, ni_31, mi_32, ni_32, mi_33, ml_33, nl_33, mi_34, ni_34, mi_35, ml_35, nl_35, mi_36, ni_36, mi_37, ni_37, mi_38, ni_38, l_X12_copyBlock, l_X12_fails, l_X12_its]
  try rfl
theorem l_X12_restore_34 {C : Mem} {x1 : Int32} {xs0 : Int32} {M : Mem} : f_X12_restore_34  x1 xs0 (mix C M) = mq C (f_X12_restore_34  x1 xs0 M) := by
  unfold f_X12_restore_34
  simp (maxSteps := 4000000) (disch := assumption) only [mq_none, mq_some, mq_ite, mq_bnd, bnd_mq, mq_nm, mi_10, ni_10, mi_30, ni_30, mi_31, ni_31, mi_32, ni_32, mi_33, ml_33, nl_33, mi_34, ni_34, mi_35, ml_35, nl_35, mi_36, ni_36, mi_37, ni_37, mi_38, ni_38, l_X12_restore_35]
  try rfl
theorem l_X12_restore_17 {C : Mem} {x1 : Int32} {x2 : Int32} {xs0 : Int32} {M : Mem} : f_X12_restore_17  x1 x2 xs0 (mix C M) = mq C (f_X12_restore_17  x1 x2 xs0 M) := by
  unfold f_X12_restore_17
  simp (maxSteps := 4000000) (disch := assumption) only [mq_none, mq_some, mq_ite, mq_bnd, bnd_mq, mq_nm, mi_10, ni_10, mi_30, ni_30, mi_31, ni_31, mi_32, ni_32, mi_33, ml_33, nl_33, mi_34, ni_34, mi_35, ml_35, nl_35, mi_36, ni_36, mi_37, ni_37, mi_38, ni_38, l_X12_restore_34, l_X12_restore_35]
  try rfl
theorem l_X12_restore {C : Mem} {x1 : Int32} {M : Mem} : f_X12_restore  x1 (mix C M) = mq C (f_X12_restore  x1 M) := by
  unfold f_X12_restore
  simp (maxSteps := 4000000) (disch := assumption) only [mq_none, mq_some, mq_ite, mq_bnd, bnd_mq, mq_nm, mi_10, ni_10, mi_30, ni_30, mi_31, ni_31, mi_32, ni_32, mi_33, ml_33, nl_33, mi_34, ni_34, mi_35, ml_35, nl_35, mi_36, ni_36, mi_37, ni_37, mi_38, ni_38, l_X12_inRange, l_X12_restore_17]
  try rfl
theorem l_X12_byteAt {C : Mem} {x1 : Int32} {M : Mem} : f_X12_byteAt  x1 (mix C M) = mq C (f_X12_byteAt  x1 M) := by
  unfold f_X12_byteAt
  simp (maxSteps := 4000000) (disch := assumption) only [mq_none, mq_some, mq_ite, mq_bnd, bnd_mq, mq_nm, mi_10, ni_10, mi_30, ni_30, mi_31, ni_31, mi_32, ni_32, mi_33, ml_33, nl_33, mi_34, ni_34, mi_35, ml_35, nl_35, mi_36, ni_36, mi_37, ni_37, mi_38, ni_38]
  try rfl
theorem l_X12_isLetter {C : Mem} {x1 : Int32} {M : Mem} : f_X12_isLetter  x1 (mix C M) = mq C (f_X12_isLetter  x1 M) := by
  unfold f_X12_isLetter
  simp (maxSteps := 4000000) (disch := assumption) only [mq_none, mq_some, mq_ite, mq_bnd, bnd_mq, mq_nm, mi_10, ni_10, mi_30, ni_30, mi_31, ni_31, mi_32, ni_32, mi_33, ml_33, nl_33, mi_34, ni_34, mi_35, ml_35, nl_35, mi_36, ni_36, mi_37, ni_37, mi_38, ni_38, l_X12_byteAt, l_X12_inRange]
  try rfl
theorem l_X12_isDigit {C : Mem} {x1 : Int32} {M : Mem} : f_X12_isDigit  x1 (mix C M) = mq C (f_X12_isDigit  x1 M) := by
  unfold f_X12_isDigit
  simp (maxSteps := 4000000) (disch := assumption) only [mq_none, mq_some, mq_ite, mq_bnd, bnd_mq, mq_nm, mi_10, ni_10, mi_30, ni_30, mi_31, ni_31, mi_32, ni_32, mi_33, ml_33, nl_33, mi_34, ni_34, mi_35, ml_35, nl_35, mi_36, ni_36, mi_37, ni_37, mi_38, ni_38, l_X12_byteAt, l_X12_inRange]
  try rfl
theorem l_X12_scanWord_108 {C : Mem} {r86 : Int64 → Int32 → Mem → Option (Unit × Mem)} (hr86 : ∀ (y1 : Int64) (x3 : Int32) (M : Mem), r86 y1 x3 (mix C M) = mq C (r86 y1 x3 M)) {y1 : Int64} {x3 : Int32} {M : Mem} : f_X12_scanWord_108 r86 y1 x3 (mix C M) = mq C (f_X12_scanWord_108 r86 y1 x3 M) := by
  unfold f_X12_scanWord_108
  simp (maxSteps := 4000000) (disch := assumption) only [mq_none, mq_some, mq_ite, mq_bnd, bnd_mq, mq_nm, mi_10, ni_10, mi_30, ni_30, mi_31, ni_31, mi_32, ni_32, mi_33, ml_33, nl_33, mi_34, ni_34, mi_35, ml_35, nl_35, mi_36, ni_36, mi_37, ni_37, mi_38, ni_38, hr86]
  try rfl
theorem l_X12_scanWord_86 {C : Mem} : ∀ (n : Nat) (y1 : Int64) (x3 : Int32) (M : Mem), f_X12_scanWord_86  n y1 x3 (mix C M) = mq C (f_X12_scanWord_86  n y1 x3 M) := by
  intro n
  induction n with
  | zero => intro y1 x3 M; rfl
  | succ n ih =>
    intro y1 x3 M
    unfold f_X12_scanWord_86
    simp (maxSteps := 4000000) (disch := assumption) only [mq_none, mq_some, mq_ite, mq_bnd, bnd_mq, mq_nm, mi_10, ni_10, mi_30, ni_30, mi_31, ni_31, mi_32, ni_32, mi_33, ml_33, nl_33, mi_34, ni_34, mi_35, ml_35, nl_35, mi_36, ni_36, mi_37, ni_37, mi_38, ni_38, l_X12_scanWord_108, ih]
    try rfl
theorem l_X12_scanWord_84 {C : Mem} {y1 : Int64} {M : Mem} : f_X12_scanWord_84  y1 (mix C M) = mq C (f_X12_scanWord_84  y1 M) := by
  unfold f_X12_scanWord_84
  simp (maxSteps := 4000000) (disch := assumption) only [mq_none, mq_some, mq_ite, mq_bnd, bnd_mq, mq_nm, mi_10, ni_10, mi_30, ni_30, mi_31, ni_31, mi_32, ni_32, mi_33, ml_33, nl_33, mi_34, ni_34, mi_35, ml_35, nl_35, mi_36, ni_36, mi_37, ni_37, mi_38, ni_38, l_X12_scanWord_86]
  try rfl
theorem l_X12_scanWord_52 {C : Mem} {r7 : Int64 → Mem → Option (Unit × Mem)} (hr7 : ∀ (y1 : Int64) (M : Mem), r7 y1 (mix C M) = mq C (r7 y1 M)) {y1 : Int64} {M : Mem} : f_X12_scanWord_52 r7 y1 (mix C M) = mq C (f_X12_scanWord_52 r7 y1 M) := by
  unfold f_X12_scanWord_52
  simp (maxSteps := 4000000) (disch := assumption) only [mq_none, mq_some, mq_ite, mq_bnd, bnd_mq, mq_nm, mi_10, ni_10, mi_30, ni_30, mi_31, ni_31, mi_32, ni_32, mi_33, ml_33, nl_33, mi_34, ni_34, mi_35, ml_35, nl_35, mi_36, ni_36, mi_37, ni_37, mi_38, ni_38, hr7]
  try rfl
theorem l_X12_scanWord_7 {C : Mem} : ∀ (n : Nat) (y1 : Int64) (M : Mem), f_X12_scanWord_7  n y1 (mix C M) = mq C (f_X12_scanWord_7  n y1 M) := by
  intro n
  induction n with
  | zero => intro y1 M; rfl
  | succ n ih =>
    intro y1 M
    unfold f_X12_scanWord_7
    simp (maxSteps := 4000000) (disch := assumption) only [mq_none, mq_some, mq_ite, mq_bnd, bnd_mq, mq_nm, mi_10, ni_10, mi_30, ni_30, mi_31, ni_31, mi_32, ni_32, mi_33, ml_33, nl_33, mi_34, ni_34, mi_35, ml_35, nl_35, mi_36, ni_36, mi_37, ni_37, mi_38, ni_38, l_X12_byteAt, l_X12_isLetter, l_X12_scanWord_52, l_X12_scanWord_84, ih]
    try rfl
theorem l_X12_scanWord {C : Mem} {M : Mem} : f_X12_scanWord (mix C M) = mq C (f_X12_scanWord   M) := by
  unfold f_X12_scanWord
  simp (maxSteps := 4000000) (disch := assumption) only [mq_none, mq_some, mq_ite, mq_bnd, bnd_mq, mq_nm, mi_10, ni_10, mi_30, ni_30, mi_31, ni_31, mi_32, ni_32, mi_33, ml_33, nl_33, mi_34, ni_34, mi_35, ml_35, nl_35, mi_36, ni_36, mi_37, ni_37, mi_38, ni_38, l_X12_scanWord_7]
  try rfl
theorem l_X12_scanNumber_57 {C : Mem} {r10 : Mem → Option (Unit × Mem)} (hr10 : ∀  (M : Mem), r10 (mix C M) = mq C (r10  M)) {M : Mem} : f_X12_scanNumber_57 r10 (mix C M) = mq C (f_X12_scanNumber_57 r10  M) := by
  unfold f_X12_scanNumber_57
  simp (maxSteps := 4000000) (disch := assumption) only [mq_none, mq_some, mq_ite, mq_bnd, bnd_mq, mq_nm, mi_10, ni_10, mi_30, ni_30, mi_31, ni_31, mi_32, ni_32, mi_33, ml_33, nl_33, mi_34, ni_34, mi_35, ml_35, nl_35, mi_36, ni_36, mi_37, ni_37, mi_38, ni_38, hr10]
  try rfl
theorem l_X12_scanNumber_10 {C : Mem} : ∀ (n : Nat)  (M : Mem), f_X12_scanNumber_10  n (mix C M) = mq C (f_X12_scanNumber_10  n  M) := by
  intro n
  induction n with
  | zero => intro  M; rfl
  | succ n ih =>
    intro  M
    unfold f_X12_scanNumber_10
    simp (maxSteps := 4000000) (disch := assumption) only [mq_none, mq_some, mq_ite, mq_bnd, bnd_mq, mq_nm, mi_10, ni_10, mi_30, ni_30, mi_31, ni_31, mi_32, ni_32, mi_33, ml_33, nl_33, mi_34, ni_34, mi_35, ml_35, nl_35, mi_36, ni_36, mi_37, ni_37, mi_38, ni_38, l_X12_byteAt, l_X12_isDigit, l_X12_scanNumber_57, ih]
    try rfl
theorem l_X12_scanNumber {C : Mem} {M : Mem} : f_X12_scanNumber (mix C M) = mq C (f_X12_scanNumber   M) := by
  unfold f_X12_scanNumber
  simp (maxSteps := 4000000) (disch := assumption) only [mq_none, mq_some, mq_ite, mq_bnd, bnd_mq, mq_nm, mi_10, ni_10, mi_30, ni_30, mi_31, ni_31, mi_32, ni_32, mi_33, ml_33, nl_33, mi_34, ni_34, mi_35, ml_35, nl_35, mi_36, ni_36, mi_37, ni_37, mi_38, ni_38, l_X12_scanNumber_10]
  try rfl
theorem l_X12_next_26 {C : Mem} {r0 : Mem → Option (Unit × Mem)} (hr0 : ∀  (M : Mem), r0 (mix C M) = mq C (r0  M)) {M : Mem} : f_X12_next_26 r0 (mix C M) = mq C (f_X12_next_26 r0  M) := by
  unfold f_X12_next_26
  simp (maxSteps := 4000000) (disch := assumption) only [mq_none, mq_some, mq_ite, mq_bnd, bnd_mq, mq_nm, mi_10, ni_10, mi_30, ni_30, mi_31, ni_31, mi_32, ni_32, mi_33, ml_33, nl_33, mi_34, ni_34, mi_35, ml_35, nl_35, mi_36, ni_36, mi_37, ni_37, mi_38, ni_38, hr0]
  try rfl
theorem l_X12_next_0 {C : Mem} : ∀ (n : Nat)  (M : Mem), f_X12_next_0  n (mix C M) = mq C (f_X12_next_0  n  M) := by
  intro n
  induction n with
  | zero => intro  M; rfl
  | succ n ih =>
    intro  M
    unfold f_X12_next_0
    simp (maxSteps := 4000000) (disch := assumption) only [mq_none, mq_some, mq_ite, mq_bnd, bnd_mq, mq_nm, mi_10, ni_10, mi_30, ni_30, mi_31, ni_31, mi_32, ni_32, mi_33, ml_33, nl_33, mi_34, ni_34, mi_35, ml_35, nl_35, mi_36, ni_36, mi_37, ni_37, mi_38, ni_38, l_X12_byteAt, l_X12_isDigit, l_X12_isLetter, l_X12_next_26, l_X12_scanNumber, l_X12_scanWord, ih]
    try rfl
theorem l_X12_next {C : Mem} {M : Mem} : f_X12_next (mix C M) = mq C (f_X12_next  M) := by
  unfold f_X12_next
  exact l_X12_next_0 _  _
theorem l_X12_ok {C : Mem} {M : Mem} : f_X12_ok (mix C M) = mq C (f_X12_ok   M) := by
  unfold f_X12_ok
  simp (maxSteps := 4000000) (disch := assumption) only [mq_none, mq_some, mq_ite, mq_bnd, bnd_mq, mq_nm, mi_10, ni_10, mi_30, ni_30, mi_31, ni_31, mi_32, ni_32, mi_33, ml_33, nl_33, mi_34, ni_34, mi_35, ml_35, nl_35, mi_36, ni_36, mi_37, ni_37, mi_38, ni_38]
  try rfl
theorem l_X12_fail {C : Mem} {x1 : Int32} {M : Mem} : f_X12_fail  x1 (mix C M) = mq C (f_X12_fail  x1 M) := by
  unfold f_X12_fail
  simp (maxSteps := 4000000) (disch := assumption) only [mq_none, mq_some, mq_ite, mq_bnd, bnd_mq, mq_nm, mi_10, ni_10, mi_30, ni_30, mi_31, ni_31, mi_32, ni_32, mi_33, ml_33, nl_33, mi_34, ni_34, mi_35, ml_35, nl_35, mi_36, ni_36, mi_37, ni_37, mi_38, ni_38]
  try rfl
theorem l_X12_isKeyword_20 {C : Mem} {M : Mem} : f_X12_isKeyword_20 (mix C M) = mq C (f_X12_isKeyword_20   M) := by
  unfold f_X12_isKeyword_20
  simp (maxSteps := 4000000) (disch := assumption) only [mq_none, mq_some, mq_ite, mq_bnd, bnd_mq, mq_nm, mi_10, ni_10, mi_30, ni_30, mi_31, ni_31, mi_32, ni_32, mi_33, ml_33, nl_33, mi_34, ni_34, mi_35, ml_35, nl_35, mi_36, ni_36, mi_37, ni_37, mi_38, ni_38]
  try rfl
theorem l_X12_isKeyword {C : Mem} {x1 : Int32} {M : Mem} : f_X12_isKeyword  x1 (mix C M) = mq C (f_X12_isKeyword  x1 M) := by
  unfold f_X12_isKeyword
  simp (maxSteps := 4000000) (disch := assumption) only [mq_none, mq_some, mq_ite, mq_bnd, bnd_mq, mq_nm, mi_10, ni_10, mi_30, ni_30, mi_31, ni_31, mi_32, ni_32, mi_33, ml_33, nl_33, mi_34, ni_34, mi_35, ml_35, nl_35, mi_36, ni_36, mi_37, ni_37, mi_38, ni_38, l_X12_isKeyword_20]
  try rfl
theorem l_X12_isSign_20 {C : Mem} {M : Mem} : f_X12_isSign_20 (mix C M) = mq C (f_X12_isSign_20   M) := by
  unfold f_X12_isSign_20
  simp (maxSteps := 4000000) (disch := assumption) only [mq_none, mq_some, mq_ite, mq_bnd, bnd_mq, mq_nm, mi_10, ni_10, mi_30, ni_30, mi_31, ni_31, mi_32, ni_32, mi_33, ml_33, nl_33, mi_34, ni_34, mi_35, ml_35, nl_35, mi_36, ni_36, mi_37, ni_37, mi_38, ni_38]
  try rfl
theorem l_X12_isSign {C : Mem} {x1 : Int32} {M : Mem} : f_X12_isSign  x1 (mix C M) = mq C (f_X12_isSign  x1 M) := by
  unfold f_X12_isSign
  simp (maxSteps := 4000000) (disch := assumption) only [mq_none, mq_some, mq_ite, mq_bnd, bnd_mq, mq_nm, mi_10, ni_10, mi_30, ni_30, mi_31, ni_31, mi_32, ni_32, mi_33, ml_33, nl_33, mi_34, ni_34, mi_35, ml_35, nl_35, mi_36, ni_36, mi_37, ni_37, mi_38, ni_38, l_X12_isSign_20]
  try rfl
theorem l_X12_accepts_20 {C : Mem} {xs0 : Int32} {M : Mem} : f_X12_accepts_20  xs0 (mix C M) = mq C (f_X12_accepts_20  xs0 M) := by
  unfold f_X12_accepts_20
  simp (maxSteps := 4000000) (disch := assumption) only [mq_none, mq_some, mq_ite, mq_bnd, bnd_mq, mq_nm, mi_10, ni_10, mi_30, ni_30, mi_31, ni_31, mi_32, ni_32, mi_33, ml_33, nl_33, mi_34, ni_34, mi_35, ml_35, nl_35, mi_36, ni_36, mi_37, ni_37, mi_38, ni_38, l_X12_next]
  try rfl
theorem l_X12_accepts_19 {C : Mem} {M : Mem} : f_X12_accepts_19 (mix C M) = mq C (f_X12_accepts_19   M) := by
  unfold f_X12_accepts_19
  simp (maxSteps := 4000000) (disch := assumption) only [mq_none, mq_some, mq_ite, mq_bnd, bnd_mq, mq_nm, mi_10, ni_10, mi_30, ni_30, mi_31, ni_31, mi_32, ni_32, mi_33, ml_33, nl_33, mi_34, ni_34, mi_35, ml_35, nl_35, mi_36, ni_36, mi_37, ni_37, mi_38, ni_38, l_X12_accepts_20]
  try rfl
theorem l_X12_accepts {C : Mem} {x1 : Int32} {M : Mem} : f_X12_accepts  x1 (mix C M) = mq C (f_X12_accepts  x1 M) := by
  unfold f_X12_accepts
  simp (maxSteps := 4000000) (disch := assumption) only [mq_none, mq_some, mq_ite, mq_bnd, bnd_mq, mq_nm, mi_10, ni_10, mi_30, ni_30, mi_31, ni_31, mi_32, ni_32, mi_33, ml_33, nl_33, mi_34, ni_34, mi_35, ml_35, nl_35, mi_36, ni_36, mi_37, ni_37, mi_38, ni_38, l_X12_accepts_19, l_X12_accepts_20, l_X12_isKeyword, l_X12_ok]
  try rfl
theorem l_X12_require {C : Mem} {x1 : Int32} {M : Mem} : f_X12_require  x1 (mix C M) = mq C (f_X12_require  x1 M) := by
  unfold f_X12_require
  simp (maxSteps := 4000000) (disch := assumption) only [mq_none, mq_some, mq_ite, mq_bnd, bnd_mq, mq_nm, mi_10, ni_10, mi_30, ni_30, mi_31, ni_31, mi_32, ni_32, mi_33, ml_33, nl_33, mi_34, ni_34, mi_35, ml_35, nl_35, mi_36, ni_36, mi_37, ni_37, mi_38, ni_38, l_X12_accepts, l_X12_fail, l_X12_ok]
  try rfl
theorem l_X12_readNumber_58 {C : Mem} {x1 : Int32} {x3 : Int32} {M : Mem} : f_X12_readNumber_58  x1 x3 (mix C M) = mq C (f_X12_readNumber_58  x1 x3 M) := by
  unfold f_X12_readNumber_58
  simp (maxSteps := 4000000) (disch := assumption) only [mq_none, mq_some, mq_ite, mq_bnd, bnd_mq, mq_nm, mi_10, ni_10, mi_30, ni_30, mi_31, ni_31, mi_32, ni_32, mi_33, ml_33, nl_33, mi_34, ni_34, mi_35, ml_35, nl_35, mi_36, ni_36, mi_37, ni_37, mi_38, ni_38, l_X12_ok]
  try rfl
theorem l_X12_readNumber_42 {C : Mem} {x1 : Int32} {M : Mem} : f_X12_readNumber_42  x1 (mix C M) = mq C (f_X12_readNumber_42  x1 M) := by
  unfold f_X12_readNumber_42
  simp (maxSteps := 4000000) (disch := assumption) only [mq_none, mq_some, mq_ite, mq_bnd, bnd_mq, mq_nm, mi_10, ni_10, mi_30, ni_30, mi_31, ni_31, mi_32, ni_32, mi_33, ml_33, nl_33, mi_34, ni_34, mi_35, ml_35, nl_35, mi_36, ni_36, mi_37, ni_37, mi_38, ni_38, l_X12_next, l_X12_ok, l_X12_readNumber_58]
  try rfl
theorem l_X12_readNumber {C : Mem} {x1 : Int32} {x2 : Int32} {M : Mem} : f_X12_readNumber  x1 x2 (mix C M) = mq C (f_X12_readNumber  x1 x2 M) := by
  unfold f_X12_readNumber
  simp (maxSteps := 4000000) (disch := assumption) only [mq_none, mq_some, mq_ite, mq_bnd, bnd_mq, mq_nm, mi_10, ni_10, mi_30, ni_30, mi_31, ni_31, mi_32, ni_32, mi_33, ml_33, nl_33, mi_34, ni_34, mi_35, ml_35, nl_35, mi_36, ni_36, mi_37, ni_37, mi_38, ni_38, l_X12_fail, l_X12_inRange, l_X12_ok, l_X12_readNumber_42]
  try rfl
theorem l_X12_readSigned_30 {C : Mem} {x1 : Int32} {x2 : Int32} {M : Mem} : f_X12_readSigned_30  x1 x2 (mix C M) = mq C (f_X12_readSigned_30  x1 x2 M) := by
  unfold f_X12_readSigned_30
  simp (maxSteps := 4000000) (disch := assumption) only [mq_none, mq_some, mq_ite, mq_bnd, bnd_mq, mq_nm, mi_10, ni_10, mi_30, ni_30, mi_31, ni_31, mi_32, ni_32, mi_33, ml_33, nl_33, mi_34, ni_34, mi_35, ml_35, nl_35, mi_36, ni_36, mi_37, ni_37, mi_38, ni_38, l_X12_readNumber]
  try rfl
theorem l_X12_readSigned_21 {C : Mem} {x1 : Int32} {xs0 : Int32} {M : Mem} : f_X12_readSigned_21  x1 xs0 (mix C M) = mq C (f_X12_readSigned_21  x1 xs0 M) := by
  unfold f_X12_readSigned_21
  simp (maxSteps := 4000000) (disch := assumption) only [mq_none, mq_some, mq_ite, mq_bnd, bnd_mq, mq_nm, mi_10, ni_10, mi_30, ni_30, mi_31, ni_31, mi_32, ni_32, mi_33, ml_33, nl_33, mi_34, ni_34, mi_35, ml_35, nl_35, mi_36, ni_36, mi_37, ni_37, mi_38, ni_38, l_X12_next, l_X12_readSigned_30]
  try rfl
theorem l_X12_readSigned_20 {C : Mem} {x1 : Int32} {M : Mem} : f_X12_readSigned_20  x1 (mix C M) = mq C (f_X12_readSigned_20  x1 M) := by
  unfold f_X12_readSigned_20
  simp (maxSteps := 4000000) (disch := assumption) only [mq_none, mq_some, mq_ite, mq_bnd, bnd_mq, mq_nm, mi_10, ni_10, mi_30, ni_30, mi_31, ni_31, mi_32, ni_32, mi_33, ml_33, nl_33, mi_34, ni_34, mi_35, ml_35, nl_35, mi_36, ni_36, mi_37, ni_37, mi_38, ni_38, l_X12_readSigned_21]
  try rfl
theorem l_X12_readSigned {C : Mem} {x1 : Int32} {M : Mem} : f_X12_readSigned  x1 (mix C M) = mq C (f_X12_readSigned  x1 M) := by
  unfold f_X12_readSigned
  simp (maxSteps := 4000000) (disch := assumption) only [mq_none, mq_some, mq_ite, mq_bnd, bnd_mq, mq_nm, mi_10, ni_10, mi_30, ni_30, mi_31, ni_31, mi_32, ni_32, mi_33, ml_33, nl_33, mi_34, ni_34, mi_35, ml_35, nl_35, mi_36, ni_36, mi_37, ni_37, mi_38, ni_38, l_X12_isSign, l_X12_ok, l_X12_readSigned_20, l_X12_readSigned_21]
  try rfl
theorem l_X12_errorCode {C : Mem} {M : Mem} : f_X12_errorCode (mix C M) = mq C (f_X12_errorCode   M) := by
  unfold f_X12_errorCode
  simp (maxSteps := 4000000) (disch := assumption) only [mq_none, mq_some, mq_ite, mq_bnd, bnd_mq, mq_nm, mi_10, ni_10, mi_30, ni_30, mi_31, ni_31, mi_32, ni_32, mi_33, ml_33, nl_33, mi_34, ni_34, mi_35, ml_35, nl_35, mi_36, ni_36, mi_37, ni_37, mi_38, ni_38]
  try rfl
theorem l_X12_errorPosition {C : Mem} {M : Mem} : f_X12_errorPosition (mix C M) = mq C (f_X12_errorPosition   M) := by
  unfold f_X12_errorPosition
  simp (maxSteps := 4000000) (disch := assumption) only [mq_none, mq_some, mq_ite, mq_bnd, bnd_mq, mq_nm, mi_10, ni_10, mi_30, ni_30, mi_31, ni_31, mi_32, ni_32, mi_33, ml_33, nl_33, mi_34, ni_34, mi_35, ml_35, nl_35, mi_36, ni_36, mi_37, ni_37, mi_38, ni_38]
  try rfl
theorem l_X12_drafts {C : Mem} {x0 : Int32} {M : Mem} : f_X12_drafts  x0 (mix C M) = mq C (f_X12_drafts  x0 M) := by
  unfold f_X12_drafts
  simp (maxSteps := 4000000) (disch := assumption) only [mq_none, mq_some, mq_ite, mq_bnd, bnd_mq, mq_nm, mi_10, ni_10, mi_30, ni_30, mi_31, ni_31, mi_32, ni_32, mi_33, ml_33, nl_33, mi_34, ni_34, mi_35, ml_35, nl_35, mi_36, ni_36, mi_37, ni_37, mi_38, ni_38]
  try rfl
theorem l_X12_readOnce {C : Mem} {x1 : Int32} {x2 : Int32} {M : Mem} : f_X12_readOnce  x1 x2 (mix C M) = mq C (f_X12_readOnce  x1 x2 M) := by
  unfold f_X12_readOnce
  simp (maxSteps := 4000000) (disch := assumption) only [mq_none, mq_some, mq_ite, mq_bnd, bnd_mq, mq_nm, mi_10, ni_10, mi_30, ni_30, mi_31, ni_31, mi_32, ni_32, mi_33, ml_33, nl_33, mi_34, ni_34, mi_35, ml_35, nl_35, mi_36, ni_36, mi_37, ni_37, mi_38, ni_38, l_X12_fail, l_X12_ok, l_X12_readNumber]
  try rfl
theorem l_X12_isThere37_30 {C : Mem} {M : Mem} : f_X12_isThere37_30 (mix C M) = mq C (f_X12_isThere37_30   M) := by
  unfold f_X12_isThere37_30
  simp (maxSteps := 4000000) (disch := assumption) only [mq_none, mq_some, mq_ite, mq_bnd, bnd_mq, mq_nm, mi_10, ni_10, mi_30, ni_30, mi_31, ni_31, mi_32, ni_32, mi_33, ml_33, nl_33, mi_34, ni_34, mi_35, ml_35, nl_35, mi_36, ni_36, mi_37, ni_37, mi_38, ni_38]
  try rfl
theorem l_X12_isThere37 {C : Mem} {M : Mem} : f_X12_isThere37 (mix C M) = mq C (f_X12_isThere37   M) := by
  unfold f_X12_isThere37
  simp (maxSteps := 4000000) (disch := assumption) only [mq_none, mq_some, mq_ite, mq_bnd, bnd_mq, mq_nm, mi_10, ni_10, mi_30, ni_30, mi_31, ni_31, mi_32, ni_32, mi_33, ml_33, nl_33, mi_34, ni_34, mi_35, ml_35, nl_35, mi_36, ni_36, mi_37, ni_37, mi_38, ni_38, l_X12_isThere37_30]
  try rfl
theorem l_X12_isThere38_30 {C : Mem} {M : Mem} : f_X12_isThere38_30 (mix C M) = mq C (f_X12_isThere38_30   M) := by
  unfold f_X12_isThere38_30
  simp (maxSteps := 4000000) (disch := assumption) only [mq_none, mq_some, mq_ite, mq_bnd, bnd_mq, mq_nm, mi_10, ni_10, mi_30, ni_30, mi_31, ni_31, mi_32, ni_32, mi_33, ml_33, nl_33, mi_34, ni_34, mi_35, ml_35, nl_35, mi_36, ni_36, mi_37, ni_37, mi_38, ni_38]
  try rfl
theorem l_X12_isThere38 {C : Mem} {M : Mem} : f_X12_isThere38 (mix C M) = mq C (f_X12_isThere38   M) := by
  unfold f_X12_isThere38
  simp (maxSteps := 4000000) (disch := assumption) only [mq_none, mq_some, mq_ite, mq_bnd, bnd_mq, mq_nm, mi_10, ni_10, mi_30, ni_30, mi_31, ni_31, mi_32, ni_32, mi_33, ml_33, nl_33, mi_34, ni_34, mi_35, ml_35, nl_35, mi_36, ni_36, mi_37, ni_37, mi_38, ni_38, l_X12_isThere38_30]
  try rfl
theorem l_X12_parseChannel_233 {C : Mem} {r36 : Int32 → Int32 → Int32 → Mem → Option (Unit × Mem)} (hr36 : ∀ (x1 : Int32) (x2 : Int32) (x3 : Int32) (M : Mem), r36 x1 x2 x3 (mix C M) = mq C (r36 x1 x2 x3 M)) {x1 : Int32} {x2 : Int32} {x3 : Int32} {M : Mem} : f_X12_parseChannel_233 r36 x1 x2 x3 (mix C M) = mq C (f_X12_parseChannel_233 r36 x1 x2 x3 M) := by
  unfold f_X12_parseChannel_233
  simp (maxSteps := 4000000) (disch := assumption) only [mq_none, mq_some, mq_ite, mq_bnd, bnd_mq, mq_nm, mi_10, ni_10, mi_30, ni_30, mi_31, ni_31, mi_32, ni_32, mi_33, ml_33, nl_33, mi_34, ni_34, mi_35, ml_35, nl_35, mi_36, ni_36, mi_37, ni_37, mi_38, ni_38, hr36]
  try rfl
theorem l_X12_parseChannel_102 {C : Mem} {r36 : Int32 → Int32 → Int32 → Mem → Option (Unit × Mem)} (hr36 : ∀ (x1 : Int32) (x2 : Int32) (x3 : Int32) (M : Mem), r36 x1 x2 x3 (mix C M) = mq C (r36 x1 x2 x3 M)) {x1 : Int32} {x2 : Int32} {x3 : Int32} {x4 : Int32} {M : Mem} : f_X12_parseChannel_102 r36 x1 x2 x3 x4 (mix C M) = mq C (f_X12_parseChannel_102 r36 x1 x2 x3 x4 M) := by
  unfold f_X12_parseChannel_102
  simp (maxSteps := 4000000) (disch := assumption) only [mq_none, mq_some, mq_ite, mq_bnd, bnd_mq, mq_nm, mi_10, ni_10, mi_30, ni_30, mi_31, ni_31, mi_32, ni_32, mi_33, ml_33, nl_33, mi_34, ni_34, mi_35, ml_35, nl_35, mi_36, ni_36, mi_37, ni_37, mi_38, ni_38, l_X12_chan, l_X12_drafts, l_X12_parseChannel_233, l_X12_readNumber, l_X12_readSigned, hr36]
  try rfl
theorem l_X12_parseChannel_84 {C : Mem} {r36 : Int32 → Int32 → Int32 → Mem → Option (Unit × Mem)} (hr36 : ∀ (x1 : Int32) (x2 : Int32) (x3 : Int32) (M : Mem), r36 x1 x2 x3 (mix C M) = mq C (r36 x1 x2 x3 M)) {x1 : Int32} {x2 : Int32} {x3 : Int32} {x4 : Int32} {M : Mem} : f_X12_parseChannel_84 r36 x1 x2 x3 x4 (mix C M) = mq C (f_X12_parseChannel_84 r36 x1 x2 x3 x4 M) := by
  unfold f_X12_parseChannel_84
  simp (maxSteps := 4000000) (disch := assumption) only [mq_none, mq_some, mq_ite, mq_bnd, bnd_mq, mq_nm, mi_10, ni_10, mi_30, ni_30, mi_31, ni_31, mi_32, ni_32, mi_33, ml_33, nl_33, mi_34, ni_34, mi_35, ml_35, nl_35, mi_36, ni_36, mi_37, ni_37, mi_38, ni_38, l_X12_next, l_X12_ok, l_X12_parseChannel_102, hr36]
  try rfl
theorem l_X12_parseChannel_36 {C : Mem} : ∀ (n : Nat) (x1 : Int32) (x2 : Int32) (x3 : Int32) (M : Mem), f_X12_parseChannel_36  n x1 x2 x3 (mix C M) = mq C (f_X12_parseChannel_36  n x1 x2 x3 M) := by
  intro n
  induction n with
  | zero => intro x1 x2 x3 M; rfl
  | succ n ih =>
    intro x1 x2 x3 M
    unfold f_X12_parseChannel_36
    simp (maxSteps := 4000000) (disch := assumption) only [mq_none, mq_some, mq_ite, mq_bnd, bnd_mq, mq_nm, mi_10, ni_10, mi_30, ni_30, mi_31, ni_31, mi_32, ni_32, mi_33, ml_33, nl_33, mi_34, ni_34, mi_35, ml_35, nl_35, mi_36, ni_36, mi_37, ni_37, mi_38, ni_38, l_X12_fail, l_X12_inRange, l_X12_ok, l_X12_parseChannel_84, ih]
    try rfl
theorem l_X12_parseChannel {C : Mem} {M : Mem} : f_X12_parseChannel (mix C M) = mq C (f_X12_parseChannel   M) := by
  unfold f_X12_parseChannel
  simp (maxSteps := 4000000) (disch := assumption) only [mq_none, mq_some, mq_ite, mq_bnd, bnd_mq, mq_nm, mi_10, ni_10, mi_30, ni_30, mi_31, ni_31, mi_32, ni_32, mi_33, ml_33, nl_33, mi_34, ni_34, mi_35, ml_35, nl_35, mi_36, ni_36, mi_37, ni_37, mi_38, ni_38, l_X12_isThere37, l_X12_ok, l_X12_parseChannel_36, l_X12_readOnce]
  try rfl
theorem l_X12_parseEntries_122 {C : Mem} {x1 : Int32} {x3 : Int32} {M : Mem} : f_X12_parseEntries_122  x1 x3 (mix C M) = mq C (f_X12_parseEntries_122  x1 x3 M) := by
  unfold f_X12_parseEntries_122
  simp (maxSteps := 4000000) (disch := assumption) only [mq_none, mq_some, mq_ite, mq_bnd, bnd_mq, mq_nm, mi_10, ni_10, mi_30, ni_30, mi_31, ni_31, mi_32, ni_32, mi_33, ml_33, nl_33, mi_34, ni_34, mi_35, ml_35, nl_35, mi_36, ni_36, mi_37, ni_37, mi_38, ni_38, l_X12_drafts]
  try rfl
theorem l_X12_parseEntries_117 {C : Mem} {r5 : Int32 → Int32 → Int32 → Int32 → Mem → Option (Unit × Mem)} (hr5 : ∀ (x1 : Int32) (x2 : Int32) (x3 : Int32) (x4 : Int32) (M : Mem), r5 x1 x2 x3 x4 (mix C M) = mq C (r5 x1 x2 x3 x4 M)) {x1 : Int32} {x2 : Int32} {x3 : Int32} {xs0 : Int32} {M : Mem} : f_X12_parseEntries_117 r5 x1 x2 x3 xs0 (mix C M) = mq C (f_X12_parseEntries_117 r5 x1 x2 x3 xs0 M) := by
  unfold f_X12_parseEntries_117
  simp (maxSteps := 4000000) (disch := assumption) only [mq_none, mq_some, mq_ite, mq_bnd, bnd_mq, mq_nm, mi_10, ni_10, mi_30, ni_30, mi_31, ni_31, mi_32, ni_32, mi_33, ml_33, nl_33, mi_34, ni_34, mi_35, ml_35, nl_35, mi_36, ni_36, mi_37, ni_37, mi_38, ni_38, hr5]
  try rfl
theorem l_X12_parseEntries_112 {C : Mem} {r5 : Int32 → Int32 → Int32 → Int32 → Mem → Option (Unit × Mem)} (hr5 : ∀ (x1 : Int32) (x2 : Int32) (x3 : Int32) (x4 : Int32) (M : Mem), r5 x1 x2 x3 x4 (mix C M) = mq C (r5 x1 x2 x3 x4 M)) {x1 : Int32} {x2 : Int32} {x3 : Int32} {M : Mem} : f_X12_parseEntries_112 r5 x1 x2 x3 (mix C M) = mq C (f_X12_parseEntries_112 r5 x1 x2 x3 M) := by
  unfold f_X12_parseEntries_112
  simp (maxSteps := 4000000) (disch := assumption) only [mq_none, mq_some, mq_ite, mq_bnd, bnd_mq, mq_nm, mi_10, ni_10, mi_30, ni_30, mi_31, ni_31, mi_32, ni_32, mi_33, ml_33, nl_33, mi_34, ni_34, mi_35, ml_35, nl_35, mi_36, ni_36, mi_37, ni_37, mi_38, ni_38, l_X12_parseEntries_117, hr5]
  try rfl
theorem l_X12_parseEntries_60 {C : Mem} {r5 : Int32 → Int32 → Int32 → Int32 → Mem → Option (Unit × Mem)} (hr5 : ∀ (x1 : Int32) (x2 : Int32) (x3 : Int32) (x4 : Int32) (M : Mem), r5 x1 x2 x3 x4 (mix C M) = mq C (r5 x1 x2 x3 x4 M)) {x1 : Int32} {x2 : Int32} {x3 : Int32} {M : Mem} : f_X12_parseEntries_60 r5 x1 x2 x3 (mix C M) = mq C (f_X12_parseEntries_60 r5 x1 x2 x3 M) := by
  unfold f_X12_parseEntries_60
  simp (maxSteps := 4000000) (disch := assumption) only [mq_none, mq_some, mq_ite, mq_bnd, bnd_mq, mq_nm, mi_10, ni_10, mi_30, ni_30, mi_31, ni_31, mi_32, ni_32, mi_33, ml_33, nl_33, mi_34, ni_34, mi_35, ml_35, nl_35, mi_36, ni_36, mi_37, ni_37, mi_38, ni_38, l_X12_drafts, l_X12_next, l_X12_ok, l_X12_parseEntries_112, l_X12_parseEntries_117, hr5]
  try rfl
theorem l_X12_parseEntries_5 {C : Mem} : ∀ (n : Nat) (x1 : Int32) (x2 : Int32) (x3 : Int32) (x4 : Int32) (M : Mem), f_X12_parseEntries_5  n x1 x2 x3 x4 (mix C M) = mq C (f_X12_parseEntries_5  n x1 x2 x3 x4 M) := by
  intro n
  induction n with
  | zero => intro x1 x2 x3 x4 M; rfl
  | succ n ih =>
    intro x1 x2 x3 x4 M
    unfold f_X12_parseEntries_5
    simp (maxSteps := 4000000) (disch := assumption) only [mq_none, mq_some, mq_ite, mq_bnd, bnd_mq, mq_nm, mi_10, ni_10, mi_30, ni_30, mi_31, ni_31, mi_32, ni_32, mi_33, ml_33, nl_33, mi_34, ni_34, mi_35, ml_35, nl_35, mi_36, ni_36, mi_37, ni_37, mi_38, ni_38, l_X12_fail, l_X12_ok, l_X12_parseEntries_122, l_X12_parseEntries_60, ih]
    try rfl
theorem l_X12_parseEntries {C : Mem} {x1 : Int32} {x2 : Int32} {M : Mem} : f_X12_parseEntries  x1 x2 (mix C M) = mq C (f_X12_parseEntries  x1 x2 M) := by
  unfold f_X12_parseEntries
  simp (maxSteps := 4000000) (disch := assumption) only [mq_none, mq_some, mq_ite, mq_bnd, bnd_mq, mq_nm, mi_10, ni_10, mi_30, ni_30, mi_31, ni_31, mi_32, ni_32, mi_33, ml_33, nl_33, mi_34, ni_34, mi_35, ml_35, nl_35, mi_36, ni_36, mi_37, ni_37, mi_38, ni_38, l_X12_parseEntries_5]
  try rfl
theorem l_X12_parseOver {C : Mem} {M : Mem} : f_X12_parseOver (mix C M) = mq C (f_X12_parseOver   M) := by
  unfold f_X12_parseOver
  simp (maxSteps := 4000000) (disch := assumption) only [mq_none, mq_some, mq_ite, mq_bnd, bnd_mq, mq_nm, mi_10, ni_10, mi_30, ni_30, mi_31, ni_31, mi_32, ni_32, mi_33, ml_33, nl_33, mi_34, ni_34, mi_35, ml_35, nl_35, mi_36, ni_36, mi_37, ni_37, mi_38, ni_38, l_X12_accepts, l_X12_drafts, l_X12_readNumber, l_X12_require]
  try rfl
theorem l_X12_parseMask_111 {C : Mem} {x1 : Int32} {x2 : Int32} {M : Mem} : f_X12_parseMask_111  x1 x2 (mix C M) = mq C (f_X12_parseMask_111  x1 x2 M) := by
  unfold f_X12_parseMask_111
  simp (maxSteps := 4000000) (disch := assumption) only [mq_none, mq_some, mq_ite, mq_bnd, bnd_mq, mq_nm, mi_10, ni_10, mi_30, ni_30, mi_31, ni_31, mi_32, ni_32, mi_33, ml_33, nl_33, mi_34, ni_34, mi_35, ml_35, nl_35, mi_36, ni_36, mi_37, ni_37, mi_38, ni_38, l_X12_drafts]
  try rfl
theorem l_X12_parseMask_107 {C : Mem} {r4 : Int32 → Int32 → Int32 → Mem → Option (Unit × Mem)} (hr4 : ∀ (x1 : Int32) (x2 : Int32) (x3 : Int32) (M : Mem), r4 x1 x2 x3 (mix C M) = mq C (r4 x1 x2 x3 M)) {x1 : Int32} {x2 : Int32} {xs0 : Int32} {M : Mem} : f_X12_parseMask_107 r4 x1 x2 xs0 (mix C M) = mq C (f_X12_parseMask_107 r4 x1 x2 xs0 M) := by
  unfold f_X12_parseMask_107
  simp (maxSteps := 4000000) (disch := assumption) only [mq_none, mq_some, mq_ite, mq_bnd, bnd_mq, mq_nm, mi_10, ni_10, mi_30, ni_30, mi_31, ni_31, mi_32, ni_32, mi_33, ml_33, nl_33, mi_34, ni_34, mi_35, ml_35, nl_35, mi_36, ni_36, mi_37, ni_37, mi_38, ni_38, hr4]
  try rfl
theorem l_X12_parseMask_102 {C : Mem} {r4 : Int32 → Int32 → Int32 → Mem → Option (Unit × Mem)} (hr4 : ∀ (x1 : Int32) (x2 : Int32) (x3 : Int32) (M : Mem), r4 x1 x2 x3 (mix C M) = mq C (r4 x1 x2 x3 M)) {x1 : Int32} {x2 : Int32} {M : Mem} : f_X12_parseMask_102 r4 x1 x2 (mix C M) = mq C (f_X12_parseMask_102 r4 x1 x2 M) := by
  unfold f_X12_parseMask_102
  simp (maxSteps := 4000000) (disch := assumption) only [mq_none, mq_some, mq_ite, mq_bnd, bnd_mq, mq_nm, mi_10, ni_10, mi_30, ni_30, mi_31, ni_31, mi_32, ni_32, mi_33, ml_33, nl_33, mi_34, ni_34, mi_35, ml_35, nl_35, mi_36, ni_36, mi_37, ni_37, mi_38, ni_38, l_X12_parseMask_107, hr4]
  try rfl
theorem l_X12_parseMask_65 {C : Mem} {r4 : Int32 → Int32 → Int32 → Mem → Option (Unit × Mem)} (hr4 : ∀ (x1 : Int32) (x2 : Int32) (x3 : Int32) (M : Mem), r4 x1 x2 x3 (mix C M) = mq C (r4 x1 x2 x3 M)) {x1 : Int32} {x2 : Int32} {M : Mem} : f_X12_parseMask_65 r4 x1 x2 (mix C M) = mq C (f_X12_parseMask_65 r4 x1 x2 M) := by
  unfold f_X12_parseMask_65
  simp (maxSteps := 4000000) (disch := assumption) only [mq_none, mq_some, mq_ite, mq_bnd, bnd_mq, mq_nm, mi_10, ni_10, mi_30, ni_30, mi_31, ni_31, mi_32, ni_32, mi_33, ml_33, nl_33, mi_34, ni_34, mi_35, ml_35, nl_35, mi_36, ni_36, mi_37, ni_37, mi_38, ni_38, l_X12_next, l_X12_ok, l_X12_parseMask_102, l_X12_parseMask_107, hr4]
  try rfl
theorem l_X12_parseMask_4 {C : Mem} : ∀ (n : Nat) (x1 : Int32) (x2 : Int32) (x3 : Int32) (M : Mem), f_X12_parseMask_4  n x1 x2 x3 (mix C M) = mq C (f_X12_parseMask_4  n x1 x2 x3 M) := by
  intro n
  induction n with
  | zero => intro x1 x2 x3 M; rfl
  | succ n ih =>
    intro x1 x2 x3 M
    unfold f_X12_parseMask_4
    simp (maxSteps := 4000000) (disch := assumption) only [mq_none, mq_some, mq_ite, mq_bnd, bnd_mq, mq_nm, mi_10, ni_10, mi_30, ni_30, mi_31, ni_31, mi_32, ni_32, mi_33, ml_33, nl_33, mi_34, ni_34, mi_35, ml_35, nl_35, mi_36, ni_36, mi_37, ni_37, mi_38, ni_38, l_X12_fail, l_X12_ok, l_X12_parseMask_111, l_X12_parseMask_65, ih]
    try rfl
theorem l_X12_parseMask {C : Mem} {x1 : Int32} {M : Mem} : f_X12_parseMask  x1 (mix C M) = mq C (f_X12_parseMask  x1 M) := by
  unfold f_X12_parseMask
  simp (maxSteps := 4000000) (disch := assumption) only [mq_none, mq_some, mq_ite, mq_bnd, bnd_mq, mq_nm, mi_10, ni_10, mi_30, ni_30, mi_31, ni_31, mi_32, ni_32, mi_33, ml_33, nl_33, mi_34, ni_34, mi_35, ml_35, nl_35, mi_36, ni_36, mi_37, ni_37, mi_38, ni_38, l_X12_parseMask_4]
  try rfl
theorem l_X12_parseWindow_40 {C : Mem} {xs0 : Int32} {M : Mem} : f_X12_parseWindow_40  xs0 (mix C M) = mq C (f_X12_parseWindow_40  xs0 M) := by
  unfold f_X12_parseWindow_40
  simp (maxSteps := 4000000) (disch := assumption) only [mq_none, mq_some, mq_ite, mq_bnd, bnd_mq, mq_nm, mi_10, ni_10, mi_30, ni_30, mi_31, ni_31, mi_32, ni_32, mi_33, ml_33, nl_33, mi_34, ni_34, mi_35, ml_35, nl_35, mi_36, ni_36, mi_37, ni_37, mi_38, ni_38, l_X12_drafts, l_X12_ok, l_X12_parseMask, l_X12_readNumber, l_X12_readOnce, l_X12_require, l_X12_win]
  try rfl
theorem l_X12_parseWindow_39 {C : Mem} {M : Mem} : f_X12_parseWindow_39 (mix C M) = mq C (f_X12_parseWindow_39   M) := by
  unfold f_X12_parseWindow_39
  simp (maxSteps := 4000000) (disch := assumption) only [mq_none, mq_some, mq_ite, mq_bnd, bnd_mq, mq_nm, mi_10, ni_10, mi_30, ni_30, mi_31, ni_31, mi_32, ni_32, mi_33, ml_33, nl_33, mi_34, ni_34, mi_35, ml_35, nl_35, mi_36, ni_36, mi_37, ni_37, mi_38, ni_38, l_X12_parseWindow_40]
  try rfl
theorem l_X12_parseWindow {C : Mem} {M : Mem} : f_X12_parseWindow (mix C M) = mq C (f_X12_parseWindow   M) := by
  unfold f_X12_parseWindow
  simp (maxSteps := 4000000) (disch := assumption) only [mq_none, mq_some, mq_ite, mq_bnd, bnd_mq, mq_nm, mi_10, ni_10, mi_30, ni_30, mi_31, ni_31, mi_32, ni_32, mi_33, ml_33, nl_33, mi_34, ni_34, mi_35, ml_35, nl_35, mi_36, ni_36, mi_37, ni_37, mi_38, ni_38, l_X12_drafts, l_X12_parseWindow_39, l_X12_parseWindow_40]
  try rfl
theorem l_X12_parseTrigger_89 {C : Mem} {x1 : Int32} {M : Mem} : f_X12_parseTrigger_89  x1 (mix C M) = mq C (f_X12_parseTrigger_89  x1 M) := by
  unfold f_X12_parseTrigger_89
  simp (maxSteps := 4000000) (disch := assumption) only [mq_none, mq_some, mq_ite, mq_bnd, bnd_mq, mq_nm, mi_10, ni_10, mi_30, ni_30, mi_31, ni_31, mi_32, ni_32, mi_33, ml_33, nl_33, mi_34, ni_34, mi_35, ml_35, nl_35, mi_36, ni_36, mi_37, ni_37, mi_38, ni_38, l_X12_accepts, l_X12_drafts, l_X12_readNumber]
  try rfl
theorem l_X12_parseTrigger_77 {C : Mem} {x1 : Int32} {xs0 : Int32} {xs1 : Int32} {M : Mem} : f_X12_parseTrigger_77  x1 xs0 xs1 (mix C M) = mq C (f_X12_parseTrigger_77  x1 xs0 xs1 M) := by
  unfold f_X12_parseTrigger_77
  simp (maxSteps := 4000000) (disch := assumption) only [mq_none, mq_some, mq_ite, mq_bnd, bnd_mq, mq_nm, mi_10, ni_10, mi_30, ni_30, mi_31, ni_31, mi_32, ni_32, mi_33, ml_33, nl_33, mi_34, ni_34, mi_35, ml_35, nl_35, mi_36, ni_36, mi_37, ni_37, mi_38, ni_38, l_X12_next, l_X12_ok, l_X12_parseTrigger_89]
  try rfl
theorem l_X12_parseTrigger_52 {C : Mem} {x1 : Int32} {M : Mem} : f_X12_parseTrigger_52  x1 (mix C M) = mq C (f_X12_parseTrigger_52  x1 M) := by
  unfold f_X12_parseTrigger_52
  simp (maxSteps := 4000000) (disch := assumption) only [mq_none, mq_some, mq_ite, mq_bnd, bnd_mq, mq_nm, mi_10, ni_10, mi_30, ni_30, mi_31, ni_31, mi_32, ni_32, mi_33, ml_33, nl_33, mi_34, ni_34, mi_35, ml_35, nl_35, mi_36, ni_36, mi_37, ni_37, mi_38, ni_38, l_X12_drafts, l_X12_isKeyword, l_X12_parseTrigger_77]
  try rfl
theorem l_X12_parseTrigger {C : Mem} {M : Mem} : f_X12_parseTrigger (mix C M) = mq C (f_X12_parseTrigger   M) := by
  unfold f_X12_parseTrigger
  simp (maxSteps := 4000000) (disch := assumption) only [mq_none, mq_some, mq_ite, mq_bnd, bnd_mq, mq_nm, mi_10, ni_10, mi_30, ni_30, mi_31, ni_31, mi_32, ni_32, mi_33, ml_33, nl_33, mi_34, ni_34, mi_35, ml_35, nl_35, mi_36, ni_36, mi_37, ni_37, mi_38, ni_38, l_X12_fail, l_X12_isKeyword, l_X12_isThere38, l_X12_ok, l_X12_parseTrigger_52, l_X12_readOnce]
  try rfl
theorem l_X12_isStatement_39 {C : Mem} {M : Mem} : f_X12_isStatement_39 (mix C M) = mq C (f_X12_isStatement_39   M) := by
  unfold f_X12_isStatement_39
  simp (maxSteps := 4000000) (disch := assumption) only [mq_none, mq_some, mq_ite, mq_bnd, bnd_mq, mq_nm, mi_10, ni_10, mi_30, ni_30, mi_31, ni_31, mi_32, ni_32, mi_33, ml_33, nl_33, mi_34, ni_34, mi_35, ml_35, nl_35, mi_36, ni_36, mi_37, ni_37, mi_38, ni_38]
  try rfl
theorem l_X12_isStatement {C : Mem} {x0 : Int32} {M : Mem} : f_X12_isStatement  x0 (mix C M) = mq C (f_X12_isStatement  x0 M) := by
  unfold f_X12_isStatement
  simp (maxSteps := 4000000) (disch := assumption) only [mq_none, mq_some, mq_ite, mq_bnd, bnd_mq, mq_nm, mi_10, ni_10, mi_30, ni_30, mi_31, ni_31, mi_32, ni_32, mi_33, ml_33, nl_33, mi_34, ni_34, mi_35, ml_35, nl_35, mi_36, ni_36, mi_37, ni_37, mi_38, ni_38, l_X12_inRange, l_X12_isStatement_39]
  try rfl
theorem l_X12_isManyTimes_16 {C : Mem} {M : Mem} : f_X12_isManyTimes_16 (mix C M) = mq C (f_X12_isManyTimes_16   M) := by
  unfold f_X12_isManyTimes_16
  simp (maxSteps := 4000000) (disch := assumption) only [mq_none, mq_some, mq_ite, mq_bnd, bnd_mq, mq_nm, mi_10, ni_10, mi_30, ni_30, mi_31, ni_31, mi_32, ni_32, mi_33, ml_33, nl_33, mi_34, ni_34, mi_35, ml_35, nl_35, mi_36, ni_36, mi_37, ni_37, mi_38, ni_38]
  try rfl
theorem l_X12_isManyTimes {C : Mem} {x0 : Int32} {M : Mem} : f_X12_isManyTimes  x0 (mix C M) = mq C (f_X12_isManyTimes  x0 M) := by
  unfold f_X12_isManyTimes
  simp (maxSteps := 4000000) (disch := assumption) only [mq_none, mq_some, mq_ite, mq_bnd, bnd_mq, mq_nm, mi_10, ni_10, mi_30, ni_30, mi_31, ni_31, mi_32, ni_32, mi_33, ml_33, nl_33, mi_34, ni_34, mi_35, ml_35, nl_35, mi_36, ni_36, mi_37, ni_37, mi_38, ni_38, l_X12_isManyTimes_16]
  try rfl
theorem l_X12_parseBehind_242 {C : Mem} {xs0 : Int32} {xs1 : Int32} {M : Mem} : f_X12_parseBehind_242  xs0 xs1 (mix C M) = mq C (f_X12_parseBehind_242  xs0 xs1 M) := by
  unfold f_X12_parseBehind_242
  simp (maxSteps := 4000000) (disch := assumption) only [mq_none, mq_some, mq_ite, mq_bnd, bnd_mq, mq_nm, mi_10, ni_10, mi_30, ni_30, mi_31, ni_31, mi_32, ni_32, mi_33, ml_33, nl_33, mi_34, ni_34, mi_35, ml_35, nl_35, mi_36, ni_36, mi_37, ni_37, mi_38, ni_38]
  try rfl
theorem l_X12_parseBehind {C : Mem} {x1 : Int32} {M : Mem} : f_X12_parseBehind  x1 (mix C M) = mq C (f_X12_parseBehind  x1 M) := by
  unfold f_X12_parseBehind
  simp (maxSteps := 4000000) (disch := assumption) only [mq_none, mq_some, mq_ite, mq_bnd, bnd_mq, mq_nm, mi_10, ni_10, mi_30, ni_30, mi_31, ni_31, mi_32, ni_32, mi_33, ml_33, nl_33, mi_34, ni_34, mi_35, ml_35, nl_35, mi_36, ni_36, mi_37, ni_37, mi_38, ni_38, l_X12_accepts, l_X12_drafts, l_X12_parseBehind_242, l_X12_parseChannel, l_X12_parseEntries, l_X12_parseOver, l_X12_parseTrigger, l_X12_parseWindow, l_X12_readNumber]
  try rfl
theorem l_X12_parseStatement_50 {C : Mem} {x1 : Int32} {M : Mem} : f_X12_parseStatement_50  x1 (mix C M) = mq C (f_X12_parseStatement_50  x1 M) := by
  unfold f_X12_parseStatement_50
  simp (maxSteps := 4000000) (disch := assumption) only [mq_none, mq_some, mq_ite, mq_bnd, bnd_mq, mq_nm, mi_10, ni_10, mi_30, ni_30, mi_31, ni_31, mi_32, ni_32, mi_33, ml_33, nl_33, mi_34, ni_34, mi_35, ml_35, nl_35, mi_36, ni_36, mi_37, ni_37, mi_38, ni_38, l_X12_fail, l_X12_isSign, l_X12_next, l_X12_ok, l_X12_parseBehind]
  try rfl
theorem l_X12_parseStatement {C : Mem} {M : Mem} : f_X12_parseStatement (mix C M) = mq C (f_X12_parseStatement   M) := by
  unfold f_X12_parseStatement
  simp (maxSteps := 4000000) (disch := assumption) only [mq_none, mq_some, mq_ite, mq_bnd, bnd_mq, mq_nm, mi_10, ni_10, mi_30, ni_30, mi_31, ni_31, mi_32, ni_32, mi_33, ml_33, nl_33, mi_34, ni_34, mi_35, ml_35, nl_35, mi_36, ni_36, mi_37, ni_37, mi_38, ni_38, l_X12_fail, l_X12_isManyTimes, l_X12_isStatement, l_X12_parseStatement_50]
  try rfl
theorem l_X12_setup_147 {C : Mem} : ∀ (n : Nat) (x1 : Int32) (x2 : Int32) (M : Mem), f_X12_setup_147  n x1 x2 (mix C M) = mq C (f_X12_setup_147  n x1 x2 M) := by
  intro n
  induction n with
  | zero => intro x1 x2 M; rfl
  | succ n ih =>
    intro x1 x2 M
    unfold f_X12_setup_147
    simp (maxSteps := 4000000) (disch := assumption) only [mq_none, mq_some, mq_ite, mq_bnd, bnd_mq, mq_nm, mi_10, ni_10, mi_30, ni_30, mi_31, ni_31, mi_32, ni_32, mi_33, ml_33, nl_33, mi_34, ni_34, mi_35, ml_35, nl_35, mi_36, ni_36, mi_37, ni_37, mi_38, ni_38, l_X12_copyBlock, ih]
    try rfl
theorem l_X12_setup_136 {C : Mem} {x1 : Int32} {M : Mem} : f_X12_setup_136  x1 (mix C M) = mq C (f_X12_setup_136  x1 M) := by
  unfold f_X12_setup_136
  simp (maxSteps := 4000000) (disch := assumption) only [mq_none, mq_some, mq_ite, mq_bnd, bnd_mq, mq_nm, mi_10, ni_10, mi_30, ni_30, mi_31, ni_31, mi_32, ni_32, mi_33, ml_33, nl_33, mi_34, ni_34, mi_35, ml_35, nl_35, mi_36, ni_36, mi_37, ni_37, mi_38, ni_38, l_X12_ok, l_X12_setup_147]
  try rfl
theorem l_X12_setup_112 {C : Mem} : ∀ (n : Nat) (x1 : Int32) (M : Mem), f_X12_setup_112  n x1 (mix C M) = mq C (f_X12_setup_112  n x1 M) := by
  intro n
  induction n with
  | zero => intro x1 M; rfl
  | succ n ih =>
    intro x1 M
    unfold f_X12_setup_112
    simp (maxSteps := 4000000) (disch := assumption) only [mq_none, mq_some, mq_ite, mq_bnd, bnd_mq, mq_nm, mi_10, ni_10, mi_30, ni_30, mi_31, ni_31, mi_32, ni_32, mi_33, ml_33, nl_33, mi_34, ni_34, mi_35, ml_35, nl_35, mi_36, ni_36, mi_37, ni_37, mi_38, ni_38, l_X12_ok, l_X12_parseStatement, l_X12_setup_136, ih]
    try rfl
theorem l_X12_setup_81 {C : Mem} : ∀ (n : Nat) (x1 : Int32) (M : Mem), f_X12_setup_81  n x1 (mix C M) = mq C (f_X12_setup_81  n x1 M) := by
  intro n
  induction n with
  | zero => intro x1 M; rfl
  | succ n ih =>
    intro x1 M
    unfold f_X12_setup_81
    simp (maxSteps := 4000000) (disch := assumption) only [mq_none, mq_some, mq_ite, mq_bnd, bnd_mq, mq_nm, mi_10, ni_10, mi_30, ni_30, mi_31, ni_31, mi_32, ni_32, mi_33, ml_33, nl_33, mi_34, ni_34, mi_35, ml_35, nl_35, mi_36, ni_36, mi_37, ni_37, mi_38, ni_38, l_X12_first, l_X12_firstSettings, l_X12_setup_112, ih]
    try rfl
theorem l_X12_setup_60 {C : Mem} : ∀ (n : Nat) (x1 : Int32) (M : Mem), f_X12_setup_60  n x1 (mix C M) = mq C (f_X12_setup_60  n x1 M) := by
  intro n
  induction n with
  | zero => intro x1 M; rfl
  | succ n ih =>
    intro x1 M
    unfold f_X12_setup_60
    simp (maxSteps := 4000000) (disch := assumption) only [mq_none, mq_some, mq_ite, mq_bnd, bnd_mq, mq_nm, mi_10, ni_10, mi_30, ni_30, mi_31, ni_31, mi_32, ni_32, mi_33, ml_33, nl_33, mi_34, ni_34, mi_35, ml_35, nl_35, mi_36, ni_36, mi_37, ni_37, mi_38, ni_38, l_X12_setup_81, ih]
    try rfl
theorem l_X12_setup_39 {C : Mem} : ∀ (n : Nat) (x1 : Int32) (M : Mem), f_X12_setup_39  n x1 (mix C M) = mq C (f_X12_setup_39  n x1 M) := by
  intro n
  induction n with
  | zero => intro x1 M; rfl
  | succ n ih =>
    intro x1 M
    unfold f_X12_setup_39
    simp (maxSteps := 4000000) (disch := assumption) only [mq_none, mq_some, mq_ite, mq_bnd, bnd_mq, mq_nm, mi_10, ni_10, mi_30, ni_30, mi_31, ni_31, mi_32, ni_32, mi_33, ml_33, nl_33, mi_34, ni_34, mi_35, ml_35, nl_35, mi_36, ni_36, mi_37, ni_37, mi_38, ni_38, l_X12_setup_60, ih]
    try rfl
theorem l_X12_setup {C : Mem} {M : Mem} : f_X12_setup (mix C M) = mq C (f_X12_setup   M) := by
  unfold f_X12_setup
  simp (maxSteps := 4000000) (disch := assumption) only [mq_none, mq_some, mq_ite, mq_bnd, bnd_mq, mq_nm, mi_10, ni_10, mi_30, ni_30, mi_31, ni_31, mi_32, ni_32, mi_33, ml_33, nl_33, mi_34, ni_34, mi_35, ml_35, nl_35, mi_36, ni_36, mi_37, ni_37, mi_38, ni_38, l_X12_next, l_X12_setup_39]
