/-! ===== LOCALITY of the class's functions: they read and write their own cells alone ===== -/
def cls (o : Oid) : Bool := Nat.ble o.1 9 || (Nat.ble 20 o.1 && Nat.ble o.1 27)
/-- the class's cells of M, all others of C -/
def mic (C M : Mem) : Mem := (fun o k => if cls o = true then M.1 o k else C.1 o k, fun o k => if cls o = true then M.2.1 o k else C.2.1 o k, fun o k => if cls o = true then M.2.2 o k else C.2.2 o k)
def mc {ρ : Type} (C : Mem) (o : Option (ρ × Mem)) : Option (ρ × Mem) := match o with
  | none => none
  | some q => some (q.1, mic C q.2)
theorem mc_none {ρ : Type} {C : Mem} : mc (ρ := ρ) C none = none := Eq.trans rfl rfl
theorem mc_some {ρ : Type} {C M : Mem} {r : ρ} : mc C (some (r, M)) = some (r, mic C M) := Eq.trans rfl rfl
theorem mc_ite {ρ : Type} {C : Mem} {c : Prop} [Decidable c] {a b : Option (ρ × Mem)} : mc C (if c then a else b) = if c then mc C a else mc C b := by split <;> rfl
theorem mc_bnd {ρ σ : Type} {C : Mem} {o : Option (ρ × Mem)} {k : ρ → Mem → Option (σ × Mem)} : mc C (bnd o k) = bnd o (fun r M => mc C (k r M)) := by cases o <;> rfl
theorem bnd_mc {ρ σ : Type} {C : Mem} {o : Option (ρ × Mem)} {k : ρ → Mem → Option (σ × Mem)} : bnd (mc C o) k = bnd o (fun r M => k r (mic C M)) := by cases o <;> rfl
def bndXm {ρ σ : Type} (C : Mem) (o : Option ((ρ ⊕ Nat) × Mem)) (k : ρ → Mem → Option ((σ ⊕ Nat) × Mem)) : Option ((σ ⊕ Nat) × Mem) := match o with
  | none => none
  | some (.inl v, M) => k v M
  | some (.inr e, M) => some (.inr e, mic C M)
theorem mc_bndX {ρ σ : Type} {C : Mem} {o : Option ((ρ ⊕ Nat) × Mem)} {k : ρ → Mem → Option ((σ ⊕ Nat) × Mem)} : mc C (bndX o k) = bndXm C o (fun r M => mc C (k r M)) := by
  rcases o with _ | ⟨v | e, M⟩ <;> rfl
theorem bndX_mc {ρ σ : Type} {C : Mem} {o : Option ((ρ ⊕ Nat) × Mem)} {k : ρ → Mem → Option ((σ ⊕ Nat) × Mem)} : bndX (mc C o) k = bndXm C o (fun r M => k r (mic C M)) := by
  rcases o with _ | ⟨v | e, M⟩ <;> rfl
theorem mc_nm {α ρ : Type} {C : Mem} {v : α} {k : α → Option (ρ × Mem)} : mc C (nm v k) = nm v (fun x => mc C (k x)) := Eq.trans rfl rfl
theorem mc_wck {ρ : Type} {C : Mem} {x : Int32} {k : Nat → Option (ρ × Mem)} : mc C (wck x k) = wck x (fun w => mc C (k w)) := by unfold wck; split <;> rfl
theorem wck_mc {ρ : Type} {C : Mem} {x : Int32} {F F' : Nat → Option (ρ × Mem)} (h : ∀ v, F' v = mc C (F v)) : wck x F' = mc C (wck x F) := by unfold wck; split; exact h _; rfl
theorem ite_mc {ρ : Type} {C : Mem} {c : Prop} [Decidable c] {a b a' b' : Option (ρ × Mem)} (h1 : a' = mc C a) (h2 : b' = mc C b) : (if c then a' else b') = mc C (if c then a else b) := by split; exact h1; exact h2
theorem uI_mic {C M : Mem} {o : Oid} {k : Nat} {x : Int32} (h : cls o = true) : uI (mic C M) o k x = mic C (uI M o k x) := by
  unfold uI mic
  refine Prod.ext (funext fun q => funext fun j => ?_) rfl
  by_cases hq : q = o
  · subst hq; simp [h]
  · simp [hq]
theorem uL_mic {C M : Mem} {o : Oid} {k : Nat} {x : Int64} (h : cls o = true) : uL (mic C M) o k x = mic C (uL M o k x) := by
  unfold uL mic
  refine Prod.ext rfl (Prod.ext (funext fun q => funext fun j => ?_) rfl)
  by_cases hq : q = o
  · subst hq; simp [h]
  · simp [hq]
theorem uC_mic {C M : Mem} {o q : Oid} {n : Nat} (h : cls o = true) (h2 : cls q = true) : uC (mic C M) o q n = mic C (uC M o q n) := by
  unfold uC mic
  refine Prod.ext (funext fun z => funext fun j => ?_) rfl
  by_cases hq : z = q
  · subst hq; simp [h, h2]
  · simp [hq]

theorem ci_0 {C M : Mem} {c j : Nat} {k : Nat} : (mic C M).1 (0, c, j) k = M.1 (0, c, j) k := Eq.trans rfl rfl
theorem cn_0 {ρ : Type} {C M : Mem} {c j : Nat} {k : Nat} {x : Int32} {f : Mem → Option (ρ × Mem)} : nm (uI (mic C M) (0, c, j) k x) f = nm (uI M (0, c, j) k x) (fun N => f (mic C N)) := congrArg f (uI_mic rfl)
theorem cl_0 {C M : Mem} {c j : Nat} {k : Nat} : (mic C M).2.1 (0, c, j) k = M.2.1 (0, c, j) k := Eq.trans rfl rfl
theorem cm_0 {ρ : Type} {C M : Mem} {c j : Nat} {k : Nat} {x : Int64} {f : Mem → Option (ρ × Mem)} : nm (uL (mic C M) (0, c, j) k x) f = nm (uL M (0, c, j) k x) (fun N => f (mic C N)) := congrArg f (uL_mic rfl)
theorem ci_1 {C M : Mem} {c j : Nat} {k : Nat} : (mic C M).1 (1, c, j) k = M.1 (1, c, j) k := Eq.trans rfl rfl
theorem cn_1 {ρ : Type} {C M : Mem} {c j : Nat} {k : Nat} {x : Int32} {f : Mem → Option (ρ × Mem)} : nm (uI (mic C M) (1, c, j) k x) f = nm (uI M (1, c, j) k x) (fun N => f (mic C N)) := congrArg f (uI_mic rfl)
theorem ci_2 {C M : Mem} {c j : Nat} {k : Nat} : (mic C M).1 (2, c, j) k = M.1 (2, c, j) k := Eq.trans rfl rfl
theorem cn_2 {ρ : Type} {C M : Mem} {c j : Nat} {k : Nat} {x : Int32} {f : Mem → Option (ρ × Mem)} : nm (uI (mic C M) (2, c, j) k x) f = nm (uI M (2, c, j) k x) (fun N => f (mic C N)) := congrArg f (uI_mic rfl)
theorem ci_3 {C M : Mem} {c j : Nat} {k : Nat} : (mic C M).1 (3, c, j) k = M.1 (3, c, j) k := Eq.trans rfl rfl
theorem cn_3 {ρ : Type} {C M : Mem} {c j : Nat} {k : Nat} {x : Int32} {f : Mem → Option (ρ × Mem)} : nm (uI (mic C M) (3, c, j) k x) f = nm (uI M (3, c, j) k x) (fun N => f (mic C N)) := congrArg f (uI_mic rfl)
theorem ci_4 {C M : Mem} {c j : Nat} {k : Nat} : (mic C M).1 (4, c, j) k = M.1 (4, c, j) k := Eq.trans rfl rfl
theorem cn_4 {ρ : Type} {C M : Mem} {c j : Nat} {k : Nat} {x : Int32} {f : Mem → Option (ρ × Mem)} : nm (uI (mic C M) (4, c, j) k x) f = nm (uI M (4, c, j) k x) (fun N => f (mic C N)) := congrArg f (uI_mic rfl)
theorem ci_5 {C M : Mem} {c j : Nat} {k : Nat} : (mic C M).1 (5, c, j) k = M.1 (5, c, j) k := Eq.trans rfl rfl
theorem cn_5 {ρ : Type} {C M : Mem} {c j : Nat} {k : Nat} {x : Int32} {f : Mem → Option (ρ × Mem)} : nm (uI (mic C M) (5, c, j) k x) f = nm (uI M (5, c, j) k x) (fun N => f (mic C N)) := congrArg f (uI_mic rfl)
theorem cl_5 {C M : Mem} {c j : Nat} {k : Nat} : (mic C M).2.1 (5, c, j) k = M.2.1 (5, c, j) k := Eq.trans rfl rfl
theorem cm_5 {ρ : Type} {C M : Mem} {c j : Nat} {k : Nat} {x : Int64} {f : Mem → Option (ρ × Mem)} : nm (uL (mic C M) (5, c, j) k x) f = nm (uL M (5, c, j) k x) (fun N => f (mic C N)) := congrArg f (uL_mic rfl)
theorem ci_6 {C M : Mem} {c j : Nat} {k : Nat} : (mic C M).1 (6, c, j) k = M.1 (6, c, j) k := Eq.trans rfl rfl
theorem cn_6 {ρ : Type} {C M : Mem} {c j : Nat} {k : Nat} {x : Int32} {f : Mem → Option (ρ × Mem)} : nm (uI (mic C M) (6, c, j) k x) f = nm (uI M (6, c, j) k x) (fun N => f (mic C N)) := congrArg f (uI_mic rfl)
theorem cl_6 {C M : Mem} {c j : Nat} {k : Nat} : (mic C M).2.1 (6, c, j) k = M.2.1 (6, c, j) k := Eq.trans rfl rfl
theorem cm_6 {ρ : Type} {C M : Mem} {c j : Nat} {k : Nat} {x : Int64} {f : Mem → Option (ρ × Mem)} : nm (uL (mic C M) (6, c, j) k x) f = nm (uL M (6, c, j) k x) (fun N => f (mic C N)) := congrArg f (uL_mic rfl)
theorem ci_7 {C M : Mem} {c j : Nat} {k : Nat} : (mic C M).1 (7, c, j) k = M.1 (7, c, j) k := Eq.trans rfl rfl
theorem cn_7 {ρ : Type} {C M : Mem} {c j : Nat} {k : Nat} {x : Int32} {f : Mem → Option (ρ × Mem)} : nm (uI (mic C M) (7, c, j) k x) f = nm (uI M (7, c, j) k x) (fun N => f (mic C N)) := congrArg f (uI_mic rfl)
theorem ci_8 {C M : Mem} {c j : Nat} {k : Nat} : (mic C M).1 (8, c, j) k = M.1 (8, c, j) k := Eq.trans rfl rfl
theorem cn_8 {ρ : Type} {C M : Mem} {c j : Nat} {k : Nat} {x : Int32} {f : Mem → Option (ρ × Mem)} : nm (uI (mic C M) (8, c, j) k x) f = nm (uI M (8, c, j) k x) (fun N => f (mic C N)) := congrArg f (uI_mic rfl)
theorem ci_9 {C M : Mem} {c j : Nat} {k : Nat} : (mic C M).1 (9, c, j) k = M.1 (9, c, j) k := Eq.trans rfl rfl
theorem cn_9 {ρ : Type} {C M : Mem} {c j : Nat} {k : Nat} {x : Int32} {f : Mem → Option (ρ × Mem)} : nm (uI (mic C M) (9, c, j) k x) f = nm (uI M (9, c, j) k x) (fun N => f (mic C N)) := congrArg f (uI_mic rfl)
theorem ci_20 {C M : Mem} {c j : Nat} {k : Nat} : (mic C M).1 (20, c, j) k = M.1 (20, c, j) k := Eq.trans rfl rfl
theorem cn_20 {ρ : Type} {C M : Mem} {c j : Nat} {k : Nat} {x : Int32} {f : Mem → Option (ρ × Mem)} : nm (uI (mic C M) (20, c, j) k x) f = nm (uI M (20, c, j) k x) (fun N => f (mic C N)) := congrArg f (uI_mic rfl)
theorem cc_20 {ρ : Type} {C M : Mem} {c j c2 j2 n : Nat} {f : Mem → Option (ρ × Mem)} : nm (uC (mic C M) (20, c, j) (20, c2, j2) n) f = nm (uC M (20, c, j) (20, c2, j2) n) (fun N => f (mic C N)) := congrArg f (uC_mic rfl rfl)
theorem ci_21 {C M : Mem} {c j : Nat} {k : Nat} : (mic C M).1 (21, c, j) k = M.1 (21, c, j) k := Eq.trans rfl rfl
theorem cn_21 {ρ : Type} {C M : Mem} {c j : Nat} {k : Nat} {x : Int32} {f : Mem → Option (ρ × Mem)} : nm (uI (mic C M) (21, c, j) k x) f = nm (uI M (21, c, j) k x) (fun N => f (mic C N)) := congrArg f (uI_mic rfl)
theorem cc_21 {ρ : Type} {C M : Mem} {c j c2 j2 n : Nat} {f : Mem → Option (ρ × Mem)} : nm (uC (mic C M) (21, c, j) (21, c2, j2) n) f = nm (uC M (21, c, j) (21, c2, j2) n) (fun N => f (mic C N)) := congrArg f (uC_mic rfl rfl)
theorem ci_22 {C M : Mem} {c j : Nat} {k : Nat} : (mic C M).1 (22, c, j) k = M.1 (22, c, j) k := Eq.trans rfl rfl
theorem cn_22 {ρ : Type} {C M : Mem} {c j : Nat} {k : Nat} {x : Int32} {f : Mem → Option (ρ × Mem)} : nm (uI (mic C M) (22, c, j) k x) f = nm (uI M (22, c, j) k x) (fun N => f (mic C N)) := congrArg f (uI_mic rfl)
theorem ci_23 {C M : Mem} {c j : Nat} {k : Nat} : (mic C M).1 (23, c, j) k = M.1 (23, c, j) k := Eq.trans rfl rfl
theorem cn_23 {ρ : Type} {C M : Mem} {c j : Nat} {k : Nat} {x : Int32} {f : Mem → Option (ρ × Mem)} : nm (uI (mic C M) (23, c, j) k x) f = nm (uI M (23, c, j) k x) (fun N => f (mic C N)) := congrArg f (uI_mic rfl)
theorem ci_24 {C M : Mem} {c j : Nat} {k : Nat} : (mic C M).1 (24, c, j) k = M.1 (24, c, j) k := Eq.trans rfl rfl
theorem cn_24 {ρ : Type} {C M : Mem} {c j : Nat} {k : Nat} {x : Int32} {f : Mem → Option (ρ × Mem)} : nm (uI (mic C M) (24, c, j) k x) f = nm (uI M (24, c, j) k x) (fun N => f (mic C N)) := congrArg f (uI_mic rfl)
theorem ci_25 {C M : Mem} {c j : Nat} {k : Nat} : (mic C M).1 (25, c, j) k = M.1 (25, c, j) k := Eq.trans rfl rfl
theorem cn_25 {ρ : Type} {C M : Mem} {c j : Nat} {k : Nat} {x : Int32} {f : Mem → Option (ρ × Mem)} : nm (uI (mic C M) (25, c, j) k x) f = nm (uI M (25, c, j) k x) (fun N => f (mic C N)) := congrArg f (uI_mic rfl)
theorem ci_26 {C M : Mem} {c j : Nat} {k : Nat} : (mic C M).1 (26, c, j) k = M.1 (26, c, j) k := Eq.trans rfl rfl
theorem cn_26 {ρ : Type} {C M : Mem} {c j : Nat} {k : Nat} {x : Int32} {f : Mem → Option (ρ × Mem)} : nm (uI (mic C M) (26, c, j) k x) f = nm (uI M (26, c, j) k x) (fun N => f (mic C N)) := congrArg f (uI_mic rfl)
theorem ci_27 {C M : Mem} {c j : Nat} {k : Nat} : (mic C M).1 (27, c, j) k = M.1 (27, c, j) k := Eq.trans rfl rfl
theorem cn_27 {ρ : Type} {C M : Mem} {c j : Nat} {k : Nat} {x : Int32} {f : Mem → Option (ρ × Mem)} : nm (uI (mic C M) (27, c, j) k x) f = nm (uI M (27, c, j) k x) (fun N => f (mic C N)) := congrArg f (uI_mic rfl)
set_option maxHeartbeats 8000000 in
theorem p_X1_copyFrom {C : Mem} {c0 : Nat} {j0 : Nat} {c1 : Nat} {j1 : Nat} {M : Mem} : f_X1_copyFrom  c0 j0 c1 j1 (mic C M) = mc C (f_X1_copyFrom  c0 j0 c1 j1 M) := by
  unfold f_X1_copyFrom
  simp (maxSteps := 4000000) (disch := assumption) only [mc_none, mc_some, mc_ite, mc_bnd, bnd_mc, mc_nm, mc_wck, mc_bndX, bndX_mc, ci_0, cn_0, cl_0, cm_0, ci_1, cn_1, ci_2, cn_2, ci_3, cn_3, ci_4, cn_4, ci_5, cn_5, cl_5, cm_5, ci_6, cn_6, cl_6, cm_6, ci_7, cn_7, ci_8, cn_8, ci_9, cn_9, ci_20, cn_20, cc_20, ci_21, cn_21, cc_21, ci_22, cn_22, ci_23, cn_23, ci_24, cn_24, ci_25, cn_25, ci_26, cn_26, ci_27, cn_27]
  try rfl
set_option maxHeartbeats 8000000 in
theorem p_X1_signalAt_17 {C : Mem} {c0 : Nat} {j0 : Nat} {xs0 : Int32} {M : Mem} : f_X1_signalAt_17  c0 j0 xs0 (mic C M) = mc C (f_X1_signalAt_17  c0 j0 xs0 M) := by
  unfold f_X1_signalAt_17
  simp (maxSteps := 4000000) (disch := assumption) only [mc_none, mc_some, mc_ite, mc_bnd, bnd_mc, mc_nm, mc_wck, mc_bndX, bndX_mc, ci_0, cn_0, cl_0, cm_0, ci_1, cn_1, ci_2, cn_2, ci_3, cn_3, ci_4, cn_4, ci_5, cn_5, cl_5, cm_5, ci_6, cn_6, cl_6, cm_6, ci_7, cn_7, ci_8, cn_8, ci_9, cn_9, ci_20, cn_20, cc_20, ci_21, cn_21, cc_21, ci_22, cn_22, ci_23, cn_23, ci_24, cn_24, ci_25, cn_25, ci_26, cn_26, ci_27, cn_27]
  try rfl
set_option maxHeartbeats 8000000 in
theorem p_X1_signalAt {C : Mem} {c0 : Nat} {j0 : Nat} {x1 : Int32} {M : Mem} : f_X1_signalAt  c0 j0 x1 (mic C M) = mc C (f_X1_signalAt  c0 j0 x1 M) := by
  unfold f_X1_signalAt
  simp (maxSteps := 4000000) (disch := assumption) only [mc_none, mc_some, mc_ite, mc_bnd, bnd_mc, mc_nm, mc_wck, mc_bndX, bndX_mc, ci_0, cn_0, cl_0, cm_0, ci_1, cn_1, ci_2, cn_2, ci_3, cn_3, ci_4, cn_4, ci_5, cn_5, cl_5, cm_5, ci_6, cn_6, cl_6, cm_6, ci_7, cn_7, ci_8, cn_8, ci_9, cn_9, ci_20, cn_20, cc_20, ci_21, cn_21, cc_21, ci_22, cn_22, ci_23, cn_23, ci_24, cn_24, ci_25, cn_25, ci_26, cn_26, ci_27, cn_27, p_X1_signalAt_17]
  try rfl
set_option maxHeartbeats 8000000 in
theorem p_X1_conversionLength {C : Mem} {c0 : Nat} {j0 : Nat} {M : Mem} : f_X1_conversionLength  c0 j0 (mic C M) = mc C (f_X1_conversionLength  c0 j0 M) := by
  unfold f_X1_conversionLength
  simp (maxSteps := 4000000) (disch := assumption) only [mc_none, mc_some, mc_ite, mc_bnd, bnd_mc, mc_nm, mc_wck, mc_bndX, bndX_mc, ci_0, cn_0, cl_0, cm_0, ci_1, cn_1, ci_2, cn_2, ci_3, cn_3, ci_4, cn_4, ci_5, cn_5, cl_5, cm_5, ci_6, cn_6, cl_6, cm_6, ci_7, cn_7, ci_8, cn_8, ci_9, cn_9, ci_20, cn_20, cc_20, ci_21, cn_21, cc_21, ci_22, cn_22, ci_23, cn_23, ci_24, cn_24, ci_25, cn_25, ci_26, cn_26, ci_27, cn_27]
  try rfl
set_option maxHeartbeats 8000000 in
theorem p_X1_addResult_40 {C : Mem} {c0 : Nat} {j0 : Nat} {x1 : Int32} {M : Mem} : f_X1_addResult_40  c0 j0 x1 (mic C M) = mc C (f_X1_addResult_40  c0 j0 x1 M) := by
  unfold f_X1_addResult_40
  simp (maxSteps := 4000000) (disch := assumption) only [mc_none, mc_some, mc_ite, mc_bnd, bnd_mc, mc_nm, mc_wck, mc_bndX, bndX_mc, ci_0, cn_0, cl_0, cm_0, ci_1, cn_1, ci_2, cn_2, ci_3, cn_3, ci_4, cn_4, ci_5, cn_5, cl_5, cm_5, ci_6, cn_6, cl_6, cm_6, ci_7, cn_7, ci_8, cn_8, ci_9, cn_9, ci_20, cn_20, cc_20, ci_21, cn_21, cc_21, ci_22, cn_22, ci_23, cn_23, ci_24, cn_24, ci_25, cn_25, ci_26, cn_26, ci_27, cn_27]
  try rfl
set_option maxHeartbeats 8000000 in
theorem p_X1_addResult_35 {C : Mem} {c0 : Nat} {j0 : Nat} {x1 : Int32} {M : Mem} : f_X1_addResult_35  c0 j0 x1 (mic C M) = mc C (f_X1_addResult_35  c0 j0 x1 M) := by
  unfold f_X1_addResult_35
  simp (maxSteps := 4000000) (disch := assumption) only [mc_none, mc_some, mc_ite, mc_bnd, bnd_mc, mc_nm, mc_wck, mc_bndX, bndX_mc, ci_0, cn_0, cl_0, cm_0, ci_1, cn_1, ci_2, cn_2, ci_3, cn_3, ci_4, cn_4, ci_5, cn_5, cl_5, cm_5, ci_6, cn_6, cl_6, cm_6, ci_7, cn_7, ci_8, cn_8, ci_9, cn_9, ci_20, cn_20, cc_20, ci_21, cn_21, cc_21, ci_22, cn_22, ci_23, cn_23, ci_24, cn_24, ci_25, cn_25, ci_26, cn_26, ci_27, cn_27, p_X1_addResult_40]
  try rfl
set_option maxHeartbeats 8000000 in
theorem p_X1_addResult_20 {C : Mem} {c0 : Nat} {j0 : Nat} {x1 : Int32} {M : Mem} : f_X1_addResult_20  c0 j0 x1 (mic C M) = mc C (f_X1_addResult_20  c0 j0 x1 M) := by
  unfold f_X1_addResult_20
  simp (maxSteps := 4000000) (disch := assumption) only [mc_none, mc_some, mc_ite, mc_bnd, bnd_mc, mc_nm, mc_wck, mc_bndX, bndX_mc, ci_0, cn_0, cl_0, cm_0, ci_1, cn_1, ci_2, cn_2, ci_3, cn_3, ci_4, cn_4, ci_5, cn_5, cl_5, cm_5, ci_6, cn_6, cl_6, cm_6, ci_7, cn_7, ci_8, cn_8, ci_9, cn_9, ci_20, cn_20, cc_20, ci_21, cn_21, cc_21, ci_22, cn_22, ci_23, cn_23, ci_24, cn_24, ci_25, cn_25, ci_26, cn_26, ci_27, cn_27, p_X1_addResult_35, p_X1_addResult_40]
  try rfl
set_option maxHeartbeats 8000000 in
theorem p_X1_addResult_15 {C : Mem} {c0 : Nat} {j0 : Nat} {x1 : Int32} {M : Mem} : f_X1_addResult_15  c0 j0 x1 (mic C M) = mc C (f_X1_addResult_15  c0 j0 x1 M) := by
  unfold f_X1_addResult_15
  simp (maxSteps := 4000000) (disch := assumption) only [mc_none, mc_some, mc_ite, mc_bnd, bnd_mc, mc_nm, mc_wck, mc_bndX, bndX_mc, ci_0, cn_0, cl_0, cm_0, ci_1, cn_1, ci_2, cn_2, ci_3, cn_3, ci_4, cn_4, ci_5, cn_5, cl_5, cm_5, ci_6, cn_6, cl_6, cm_6, ci_7, cn_7, ci_8, cn_8, ci_9, cn_9, ci_20, cn_20, cc_20, ci_21, cn_21, cc_21, ci_22, cn_22, ci_23, cn_23, ci_24, cn_24, ci_25, cn_25, ci_26, cn_26, ci_27, cn_27, p_X1_addResult_20]
  try rfl
set_option maxHeartbeats 8000000 in
theorem p_X1_addResult {C : Mem} {c0 : Nat} {j0 : Nat} {x1 : Int32} {M : Mem} : f_X1_addResult  c0 j0 x1 (mic C M) = mc C (f_X1_addResult  c0 j0 x1 M) := by
  unfold f_X1_addResult
  simp (maxSteps := 4000000) (disch := assumption) only [mc_none, mc_some, mc_ite, mc_bnd, bnd_mc, mc_nm, mc_wck, mc_bndX, bndX_mc, ci_0, cn_0, cl_0, cm_0, ci_1, cn_1, ci_2, cn_2, ci_3, cn_3, ci_4, cn_4, ci_5, cn_5, cl_5, cm_5, ci_6, cn_6, cl_6, cm_6, ci_7, cn_7, ci_8, cn_8, ci_9, cn_9, ci_20, cn_20, cc_20, ci_21, cn_21, cc_21, ci_22, cn_22, ci_23, cn_23, ci_24, cn_24, ci_25, cn_25, ci_26, cn_26, ci_27, cn_27, p_X1_addResult_15, p_X1_addResult_20]
  try rfl
set_option maxHeartbeats 8000000 in
theorem p_X2_copyFrom {C : Mem} {c0 : Nat} {c1 : Nat} {M : Mem} : f_X2_copyFrom  c0 c1 (mic C M) = mc C (f_X2_copyFrom  c0 c1 M) := by
  unfold f_X2_copyFrom
  simp (maxSteps := 4000000) (disch := assumption) only [mc_none, mc_some, mc_ite, mc_bnd, bnd_mc, mc_nm, mc_wck, mc_bndX, bndX_mc, ci_0, cn_0, cl_0, cm_0, ci_1, cn_1, ci_2, cn_2, ci_3, cn_3, ci_4, cn_4, ci_5, cn_5, cl_5, cm_5, ci_6, cn_6, cl_6, cm_6, ci_7, cn_7, ci_8, cn_8, ci_9, cn_9, ci_20, cn_20, cc_20, ci_21, cn_21, cc_21, ci_22, cn_22, ci_23, cn_23, ci_24, cn_24, ci_25, cn_25, ci_26, cn_26, ci_27, cn_27]
  try rfl
set_option maxHeartbeats 8000000 in
theorem p_X5_copyFrom {C : Mem} {c0 : Nat} {j0 : Nat} {c1 : Nat} {j1 : Nat} {M : Mem} : f_X5_copyFrom  c0 j0 c1 j1 (mic C M) = mc C (f_X5_copyFrom  c0 j0 c1 j1 M) := by
  unfold f_X5_copyFrom
  simp (maxSteps := 4000000) (disch := assumption) only [mc_none, mc_some, mc_ite, mc_bnd, bnd_mc, mc_nm, mc_wck, mc_bndX, bndX_mc, ci_0, cn_0, cl_0, cm_0, ci_1, cn_1, ci_2, cn_2, ci_3, cn_3, ci_4, cn_4, ci_5, cn_5, cl_5, cm_5, ci_6, cn_6, cl_6, cm_6, ci_7, cn_7, ci_8, cn_8, ci_9, cn_9, ci_20, cn_20, cc_20, ci_21, cn_21, cc_21, ci_22, cn_22, ci_23, cn_23, ci_24, cn_24, ci_25, cn_25, ci_26, cn_26, ci_27, cn_27]
  try rfl
set_option maxHeartbeats 8000000 in
theorem p_X6_copyFrom {C : Mem} {c0 : Nat} {j0 : Nat} {c1 : Nat} {j1 : Nat} {M : Mem} : f_X6_copyFrom  c0 j0 c1 j1 (mic C M) = mc C (f_X6_copyFrom  c0 j0 c1 j1 M) := by
  unfold f_X6_copyFrom
  simp (maxSteps := 4000000) (disch := assumption) only [mc_none, mc_some, mc_ite, mc_bnd, bnd_mc, mc_nm, mc_wck, mc_bndX, bndX_mc, ci_0, cn_0, cl_0, cm_0, ci_1, cn_1, ci_2, cn_2, ci_3, cn_3, ci_4, cn_4, ci_5, cn_5, cl_5, cm_5, ci_6, cn_6, cl_6, cm_6, ci_7, cn_7, ci_8, cn_8, ci_9, cn_9, ci_20, cn_20, cc_20, ci_21, cn_21, cc_21, ci_22, cn_22, ci_23, cn_23, ci_24, cn_24, ci_25, cn_25, ci_26, cn_26, ci_27, cn_27]
  try rfl
set_option maxHeartbeats 8000000 in
theorem p_X8_copyFrom {C : Mem} {c0 : Nat} {j0 : Nat} {c1 : Nat} {j1 : Nat} {M : Mem} : f_X8_copyFrom  c0 j0 c1 j1 (mic C M) = mc C (f_X8_copyFrom  c0 j0 c1 j1 M) := by
  unfold f_X8_copyFrom
  simp (maxSteps := 4000000) (disch := assumption) only [mc_none, mc_some, mc_ite, mc_bnd, bnd_mc, mc_nm, mc_wck, mc_bndX, bndX_mc, ci_0, cn_0, cl_0, cm_0, ci_1, cn_1, ci_2, cn_2, ci_3, cn_3, ci_4, cn_4, ci_5, cn_5, cl_5, cm_5, ci_6, cn_6, cl_6, cm_6, ci_7, cn_7, ci_8, cn_8, ci_9, cn_9, ci_20, cn_20, cc_20, ci_21, cn_21, cc_21, ci_22, cn_22, ci_23, cn_23, ci_24, cn_24, ci_25, cn_25, ci_26, cn_26, ci_27, cn_27]
  try rfl
set_option maxHeartbeats 8000000 in
theorem p_X9_copyFrom {C : Mem} {c0 : Nat} {j0 : Nat} {c1 : Nat} {j1 : Nat} {M : Mem} : f_X9_copyFrom  c0 j0 c1 j1 (mic C M) = mc C (f_X9_copyFrom  c0 j0 c1 j1 M) := by
  unfold f_X9_copyFrom
  simp (maxSteps := 4000000) (disch := assumption) only [mc_none, mc_some, mc_ite, mc_bnd, bnd_mc, mc_nm, mc_wck, mc_bndX, bndX_mc, ci_0, cn_0, cl_0, cm_0, ci_1, cn_1, ci_2, cn_2, ci_3, cn_3, ci_4, cn_4, ci_5, cn_5, cl_5, cm_5, ci_6, cn_6, cl_6, cm_6, ci_7, cn_7, ci_8, cn_8, ci_9, cn_9, ci_20, cn_20, cc_20, ci_21, cn_21, cc_21, ci_22, cn_22, ci_23, cn_23, ci_24, cn_24, ci_25, cn_25, ci_26, cn_26, ci_27, cn_27]
  try rfl
set_option maxHeartbeats 8000000 in
theorem p_X3_copyFrom_59 {C : Mem} : ∀ (n : Nat) (c0 : Nat) (c1 : Nat) (x2 : Int32) (M : Mem), f_X3_copyFrom_59  n c0 c1 x2 (mic C M) = mc C (f_X3_copyFrom_59  n c0 c1 x2 M) := by
  intro n
  induction n with
  | zero => intro c0 c1 x2 M; rfl
  | succ n ih =>
    intro c0 c1 x2 M
    unfold f_X3_copyFrom_59
    simp (maxSteps := 4000000) (disch := assumption) only [mc_none, mc_some, mc_ite, mc_bnd, bnd_mc, mc_nm, mc_wck, mc_bndX, bndX_mc, ci_0, cn_0, cl_0, cm_0, ci_1, cn_1, ci_2, cn_2, ci_3, cn_3, ci_4, cn_4, ci_5, cn_5, cl_5, cm_5, ci_6, cn_6, cl_6, cm_6, ci_7, cn_7, ci_8, cn_8, ci_9, cn_9, ci_20, cn_20, cc_20, ci_21, cn_21, cc_21, ci_22, cn_22, ci_23, cn_23, ci_24, cn_24, ci_25, cn_25, ci_26, cn_26, ci_27, cn_27, p_X2_copyFrom, p_X5_copyFrom, p_X6_copyFrom, p_X9_copyFrom, ih]
    try rfl
set_option maxHeartbeats 8000000 in
theorem p_X3_copyFrom_31 {C : Mem} : ∀ (n : Nat) (c0 : Nat) (c1 : Nat) (x2 : Int32) (M : Mem), f_X3_copyFrom_31  n c0 c1 x2 (mic C M) = mc C (f_X3_copyFrom_31  n c0 c1 x2 M) := by
  intro n
  induction n with
  | zero => intro c0 c1 x2 M; rfl
  | succ n ih =>
    intro c0 c1 x2 M
    unfold f_X3_copyFrom_31
    simp (maxSteps := 4000000) (disch := assumption) only [mc_none, mc_some, mc_ite, mc_bnd, bnd_mc, mc_nm, mc_wck, mc_bndX, bndX_mc, ci_0, cn_0, cl_0, cm_0, ci_1, cn_1, ci_2, cn_2, ci_3, cn_3, ci_4, cn_4, ci_5, cn_5, cl_5, cm_5, ci_6, cn_6, cl_6, cm_6, ci_7, cn_7, ci_8, cn_8, ci_9, cn_9, ci_20, cn_20, cc_20, ci_21, cn_21, cc_21, ci_22, cn_22, ci_23, cn_23, ci_24, cn_24, ci_25, cn_25, ci_26, cn_26, ci_27, cn_27, p_X3_copyFrom_59, p_X8_copyFrom, ih]
    try rfl
set_option maxHeartbeats 8000000 in
theorem p_X3_copyFrom_2 {C : Mem} : ∀ (n : Nat) (c0 : Nat) (c1 : Nat) (x2 : Int32) (M : Mem), f_X3_copyFrom_2  n c0 c1 x2 (mic C M) = mc C (f_X3_copyFrom_2  n c0 c1 x2 M) := by
  intro n
  induction n with
  | zero => intro c0 c1 x2 M; rfl
  | succ n ih =>
    intro c0 c1 x2 M
    unfold f_X3_copyFrom_2
    simp (maxSteps := 4000000) (disch := assumption) only [mc_none, mc_some, mc_ite, mc_bnd, bnd_mc, mc_nm, mc_wck, mc_bndX, bndX_mc, ci_0, cn_0, cl_0, cm_0, ci_1, cn_1, ci_2, cn_2, ci_3, cn_3, ci_4, cn_4, ci_5, cn_5, cl_5, cm_5, ci_6, cn_6, cl_6, cm_6, ci_7, cn_7, ci_8, cn_8, ci_9, cn_9, ci_20, cn_20, cc_20, ci_21, cn_21, cc_21, ci_22, cn_22, ci_23, cn_23, ci_24, cn_24, ci_25, cn_25, ci_26, cn_26, ci_27, cn_27, p_X1_copyFrom, p_X3_copyFrom_31, ih]
    try rfl
set_option maxHeartbeats 8000000 in
theorem p_X3_copyFrom {C : Mem} {c0 : Nat} {c1 : Nat} {M : Mem} : f_X3_copyFrom  c0 c1 (mic C M) = mc C (f_X3_copyFrom  c0 c1 M) := by
  unfold f_X3_copyFrom
  simp (maxSteps := 4000000) (disch := assumption) only [mc_none, mc_some, mc_ite, mc_bnd, bnd_mc, mc_nm, mc_wck, mc_bndX, bndX_mc, ci_0, cn_0, cl_0, cm_0, ci_1, cn_1, ci_2, cn_2, ci_3, cn_3, ci_4, cn_4, ci_5, cn_5, cl_5, cm_5, ci_6, cn_6, cl_6, cm_6, ci_7, cn_7, ci_8, cn_8, ci_9, cn_9, ci_20, cn_20, cc_20, ci_21, cn_21, cc_21, ci_22, cn_22, ci_23, cn_23, ci_24, cn_24, ci_25, cn_25, ci_26, cn_26, ci_27, cn_27, p_X3_copyFrom_2]
  try rfl
set_option maxHeartbeats 8000000 in
theorem p_X3_sequenceOf {C : Mem} {c0 : Nat} {x1 : Int32} {M : Mem} : f_X3_sequenceOf  c0 x1 (mic C M) = mc C (f_X3_sequenceOf  c0 x1 M) := by
  unfold f_X3_sequenceOf
  simp (maxSteps := 4000000) (disch := assumption) only [mc_none, mc_some, mc_ite, mc_bnd, bnd_mc, mc_nm, mc_wck, mc_bndX, bndX_mc, ci_0, cn_0, cl_0, cm_0, ci_1, cn_1, ci_2, cn_2, ci_3, cn_3, ci_4, cn_4, ci_5, cn_5, cl_5, cm_5, ci_6, cn_6, cl_6, cm_6, ci_7, cn_7, ci_8, cn_8, ci_9, cn_9, ci_20, cn_20, cc_20, ci_21, cn_21, cc_21, ci_22, cn_22, ci_23, cn_23, ci_24, cn_24, ci_25, cn_25, ci_26, cn_26, ci_27, cn_27]
  try rfl
set_option maxHeartbeats 8000000 in
theorem p_X3_resultCount {C : Mem} {c0 : Nat} {M : Mem} : f_X3_resultCount  c0 (mic C M) = mc C (f_X3_resultCount  c0 M) := by
  unfold f_X3_resultCount
  simp (maxSteps := 4000000) (disch := assumption) only [mc_none, mc_some, mc_ite, mc_bnd, bnd_mc, mc_nm, mc_wck, mc_bndX, bndX_mc, ci_0, cn_0, cl_0, cm_0, ci_1, cn_1, ci_2, cn_2, ci_3, cn_3, ci_4, cn_4, ci_5, cn_5, cl_5, cm_5, ci_6, cn_6, cl_6, cm_6, ci_7, cn_7, ci_8, cn_8, ci_9, cn_9, ci_20, cn_20, cc_20, ci_21, cn_21, cc_21, ci_22, cn_22, ci_23, cn_23, ci_24, cn_24, ci_25, cn_25, ci_26, cn_26, ci_27, cn_27]
  try rfl
set_option maxHeartbeats 8000000 in
theorem p_X6_forgetConversions {C : Mem} {c0 : Nat} {j0 : Nat} {M : Mem} : f_X6_forgetConversions  c0 j0 (mic C M) = mc C (f_X6_forgetConversions  c0 j0 M) := by
  unfold f_X6_forgetConversions
  simp (maxSteps := 4000000) (disch := assumption) only [mc_none, mc_some, mc_ite, mc_bnd, bnd_mc, mc_nm, mc_wck, mc_bndX, bndX_mc, ci_0, cn_0, cl_0, cm_0, ci_1, cn_1, ci_2, cn_2, ci_3, cn_3, ci_4, cn_4, ci_5, cn_5, cl_5, cm_5, ci_6, cn_6, cl_6, cm_6, ci_7, cn_7, ci_8, cn_8, ci_9, cn_9, ci_20, cn_20, cc_20, ci_21, cn_21, cc_21, ci_22, cn_22, ci_23, cn_23, ci_24, cn_24, ci_25, cn_25, ci_26, cn_26, ci_27, cn_27]
  try rfl
set_option maxHeartbeats 8000000 in
theorem p_X3_breakOffRegular {C : Mem} {c0 : Nat} {x1 : Int32} {M : Mem} : f_X3_breakOffRegular  c0 x1 (mic C M) = mc C (f_X3_breakOffRegular  c0 x1 M) := by
  unfold f_X3_breakOffRegular
  simp (maxSteps := 4000000) (disch := assumption) only [mc_none, mc_some, mc_ite, mc_bnd, bnd_mc, mc_nm, mc_wck, mc_bndX, bndX_mc, ci_0, cn_0, cl_0, cm_0, ci_1, cn_1, ci_2, cn_2, ci_3, cn_3, ci_4, cn_4, ci_5, cn_5, cl_5, cm_5, ci_6, cn_6, cl_6, cm_6, ci_7, cn_7, ci_8, cn_8, ci_9, cn_9, ci_20, cn_20, cc_20, ci_21, cn_21, cc_21, ci_22, cn_22, ci_23, cn_23, ci_24, cn_24, ci_25, cn_25, ci_26, cn_26, ci_27, cn_27, p_X6_forgetConversions]
  try rfl
set_option maxHeartbeats 8000000 in
theorem p_X6_beginPass_28 {C : Mem} {c0 : Nat} {j0 : Nat} {xs0 : Int32} {M : Mem} : f_X6_beginPass_28  c0 j0 xs0 (mic C M) = mc C (f_X6_beginPass_28  c0 j0 xs0 M) := by
  unfold f_X6_beginPass_28
  simp (maxSteps := 4000000) (disch := assumption) only [mc_none, mc_some, mc_ite, mc_bnd, bnd_mc, mc_nm, mc_wck, mc_bndX, bndX_mc, ci_0, cn_0, cl_0, cm_0, ci_1, cn_1, ci_2, cn_2, ci_3, cn_3, ci_4, cn_4, ci_5, cn_5, cl_5, cm_5, ci_6, cn_6, cl_6, cm_6, ci_7, cn_7, ci_8, cn_8, ci_9, cn_9, ci_20, cn_20, cc_20, ci_21, cn_21, cc_21, ci_22, cn_22, ci_23, cn_23, ci_24, cn_24, ci_25, cn_25, ci_26, cn_26, ci_27, cn_27]
  try rfl
set_option maxHeartbeats 8000000 in
theorem p_X6_beginPass_27 {C : Mem} {c0 : Nat} {j0 : Nat} {M : Mem} : f_X6_beginPass_27  c0 j0 (mic C M) = mc C (f_X6_beginPass_27  c0 j0 M) := by
  unfold f_X6_beginPass_27
  simp (maxSteps := 4000000) (disch := assumption) only [mc_none, mc_some, mc_ite, mc_bnd, bnd_mc, mc_nm, mc_wck, mc_bndX, bndX_mc, ci_0, cn_0, cl_0, cm_0, ci_1, cn_1, ci_2, cn_2, ci_3, cn_3, ci_4, cn_4, ci_5, cn_5, cl_5, cm_5, ci_6, cn_6, cl_6, cm_6, ci_7, cn_7, ci_8, cn_8, ci_9, cn_9, ci_20, cn_20, cc_20, ci_21, cn_21, cc_21, ci_22, cn_22, ci_23, cn_23, ci_24, cn_24, ci_25, cn_25, ci_26, cn_26, ci_27, cn_27, p_X6_beginPass_28]
  try rfl
set_option maxHeartbeats 8000000 in
theorem p_X6_beginPass {C : Mem} {c0 : Nat} {j0 : Nat} {M : Mem} : f_X6_beginPass  c0 j0 (mic C M) = mc C (f_X6_beginPass  c0 j0 M) := by
  unfold f_X6_beginPass
  simp (maxSteps := 4000000) (disch := assumption) only [mc_none, mc_some, mc_ite, mc_bnd, bnd_mc, mc_nm, mc_wck, mc_bndX, bndX_mc, ci_0, cn_0, cl_0, cm_0, ci_1, cn_1, ci_2, cn_2, ci_3, cn_3, ci_4, cn_4, ci_5, cn_5, cl_5, cm_5, ci_6, cn_6, cl_6, cm_6, ci_7, cn_7, ci_8, cn_8, ci_9, cn_9, ci_20, cn_20, cc_20, ci_21, cn_21, cc_21, ci_22, cn_22, ci_23, cn_23, ci_24, cn_24, ci_25, cn_25, ci_26, cn_26, ci_27, cn_27, p_X6_beginPass_27, p_X6_beginPass_28]
  try rfl
set_option maxHeartbeats 8000000 in
theorem p_X6_becomeBusy {C : Mem} {c0 : Nat} {j0 : Nat} {x1 : Int32} {x2 : Int32} {M : Mem} : f_X6_becomeBusy  c0 j0 x1 x2 (mic C M) = mc C (f_X6_becomeBusy  c0 j0 x1 x2 M) := by
  unfold f_X6_becomeBusy
  simp (maxSteps := 4000000) (disch := assumption) only [mc_none, mc_some, mc_ite, mc_bnd, bnd_mc, mc_nm, mc_wck, mc_bndX, bndX_mc, ci_0, cn_0, cl_0, cm_0, ci_1, cn_1, ci_2, cn_2, ci_3, cn_3, ci_4, cn_4, ci_5, cn_5, cl_5, cm_5, ci_6, cn_6, cl_6, cm_6, ci_7, cn_7, ci_8, cn_8, ci_9, cn_9, ci_20, cn_20, cc_20, ci_21, cn_21, cc_21, ci_22, cn_22, ci_23, cn_23, ci_24, cn_24, ci_25, cn_25, ci_26, cn_26, ci_27, cn_27, p_X6_beginPass]
  try rfl
set_option maxHeartbeats 8000000 in
theorem p_X3_startSequence {C : Mem} {c0 : Nat} {x1 : Int32} {x2 : Int32} {M : Mem} : f_X3_startSequence  c0 x1 x2 (mic C M) = mc C (f_X3_startSequence  c0 x1 x2 M) := by
  unfold f_X3_startSequence
  simp (maxSteps := 4000000) (disch := assumption) only [mc_none, mc_some, mc_ite, mc_bnd, bnd_mc, mc_nm, mc_wck, mc_bndX, bndX_mc, ci_0, cn_0, cl_0, cm_0, ci_1, cn_1, ci_2, cn_2, ci_3, cn_3, ci_4, cn_4, ci_5, cn_5, cl_5, cm_5, ci_6, cn_6, cl_6, cm_6, ci_7, cn_7, ci_8, cn_8, ci_9, cn_9, ci_20, cn_20, cc_20, ci_21, cn_21, cc_21, ci_22, cn_22, ci_23, cn_23, ci_24, cn_24, ci_25, cn_25, ci_26, cn_26, ci_27, cn_27, p_X3_breakOffRegular, p_X3_sequenceOf, p_X6_becomeBusy]
  try rfl
set_option maxHeartbeats 8000000 in
theorem p_X6_becomeIdle {C : Mem} {c0 : Nat} {j0 : Nat} {M : Mem} : f_X6_becomeIdle  c0 j0 (mic C M) = mc C (f_X6_becomeIdle  c0 j0 M) := by
  unfold f_X6_becomeIdle
  simp (maxSteps := 4000000) (disch := assumption) only [mc_none, mc_some, mc_ite, mc_bnd, bnd_mc, mc_nm, mc_wck, mc_bndX, bndX_mc, ci_0, cn_0, cl_0, cm_0, ci_1, cn_1, ci_2, cn_2, ci_3, cn_3, ci_4, cn_4, ci_5, cn_5, cl_5, cm_5, ci_6, cn_6, cl_6, cm_6, ci_7, cn_7, ci_8, cn_8, ci_9, cn_9, ci_20, cn_20, cc_20, ci_21, cn_21, cc_21, ci_22, cn_22, ci_23, cn_23, ci_24, cn_24, ci_25, cn_25, ci_26, cn_26, ci_27, cn_27]
  try rfl
set_option maxHeartbeats 8000000 in
theorem p_X6_isReady_18 {C : Mem} {M : Mem} : f_X6_isReady_18 (mic C M) = mc C (f_X6_isReady_18   M) := by
  unfold f_X6_isReady_18
  simp (maxSteps := 4000000) (disch := assumption) only [mc_none, mc_some, mc_ite, mc_bnd, bnd_mc, mc_nm, mc_wck, mc_bndX, bndX_mc, ci_0, cn_0, cl_0, cm_0, ci_1, cn_1, ci_2, cn_2, ci_3, cn_3, ci_4, cn_4, ci_5, cn_5, cl_5, cm_5, ci_6, cn_6, cl_6, cm_6, ci_7, cn_7, ci_8, cn_8, ci_9, cn_9, ci_20, cn_20, cc_20, ci_21, cn_21, cc_21, ci_22, cn_22, ci_23, cn_23, ci_24, cn_24, ci_25, cn_25, ci_26, cn_26, ci_27, cn_27]
  try rfl
set_option maxHeartbeats 8000000 in
theorem p_X6_isReady {C : Mem} {c0 : Nat} {j0 : Nat} {M : Mem} : f_X6_isReady  c0 j0 (mic C M) = mc C (f_X6_isReady  c0 j0 M) := by
  unfold f_X6_isReady
  simp (maxSteps := 4000000) (disch := assumption) only [mc_none, mc_some, mc_ite, mc_bnd, bnd_mc, mc_nm, mc_wck, mc_bndX, bndX_mc, ci_0, cn_0, cl_0, cm_0, ci_1, cn_1, ci_2, cn_2, ci_3, cn_3, ci_4, cn_4, ci_5, cn_5, cl_5, cm_5, ci_6, cn_6, cl_6, cm_6, ci_7, cn_7, ci_8, cn_8, ci_9, cn_9, ci_20, cn_20, cc_20, ci_21, cn_21, cc_21, ci_22, cn_22, ci_23, cn_23, ci_24, cn_24, ci_25, cn_25, ci_26, cn_26, ci_27, cn_27, p_X6_isReady_18]
  try rfl
set_option maxHeartbeats 8000000 in
theorem p_X3_endPass_89 {C : Mem} {c0 : Nat} {M : Mem} : f_X3_endPass_89  c0 (mic C M) = mc C (f_X3_endPass_89  c0 M) := by
  unfold f_X3_endPass_89
  simp (maxSteps := 4000000) (disch := assumption) only [mc_none, mc_some, mc_ite, mc_bnd, bnd_mc, mc_nm, mc_wck, mc_bndX, bndX_mc, ci_0, cn_0, cl_0, cm_0, ci_1, cn_1, ci_2, cn_2, ci_3, cn_3, ci_4, cn_4, ci_5, cn_5, cl_5, cm_5, ci_6, cn_6, cl_6, cm_6, ci_7, cn_7, ci_8, cn_8, ci_9, cn_9, ci_20, cn_20, cc_20, ci_21, cn_21, cc_21, ci_22, cn_22, ci_23, cn_23, ci_24, cn_24, ci_25, cn_25, ci_26, cn_26, ci_27, cn_27, p_X6_becomeIdle, p_X6_beginPass]
  try rfl
set_option maxHeartbeats 8000000 in
theorem p_X3_endPass_60 {C : Mem} {c0 : Nat} {M : Mem} : f_X3_endPass_60  c0 (mic C M) = mc C (f_X3_endPass_60  c0 M) := by
  unfold f_X3_endPass_60
  simp (maxSteps := 4000000) (disch := assumption) only [mc_none, mc_some, mc_ite, mc_bnd, bnd_mc, mc_nm, mc_wck, mc_bndX, bndX_mc, ci_0, cn_0, cl_0, cm_0, ci_1, cn_1, ci_2, cn_2, ci_3, cn_3, ci_4, cn_4, ci_5, cn_5, cl_5, cm_5, ci_6, cn_6, cl_6, cm_6, ci_7, cn_7, ci_8, cn_8, ci_9, cn_9, ci_20, cn_20, cc_20, ci_21, cn_21, cc_21, ci_22, cn_22, ci_23, cn_23, ci_24, cn_24, ci_25, cn_25, ci_26, cn_26, ci_27, cn_27, p_X3_endPass_89, p_X3_startSequence, p_X6_isReady]
  try rfl
set_option maxHeartbeats 8000000 in
theorem p_X3_endPass {C : Mem} {c0 : Nat} {x1 : Int32} {M : Mem} : f_X3_endPass  c0 x1 (mic C M) = mc C (f_X3_endPass  c0 x1 M) := by
  unfold f_X3_endPass
  simp (maxSteps := 4000000) (disch := assumption) only [mc_none, mc_some, mc_ite, mc_bnd, bnd_mc, mc_nm, mc_wck, mc_bndX, bndX_mc, ci_0, cn_0, cl_0, cm_0, ci_1, cn_1, ci_2, cn_2, ci_3, cn_3, ci_4, cn_4, ci_5, cn_5, cl_5, cm_5, ci_6, cn_6, cl_6, cm_6, ci_7, cn_7, ci_8, cn_8, ci_9, cn_9, ci_20, cn_20, cc_20, ci_21, cn_21, cc_21, ci_22, cn_22, ci_23, cn_23, ci_24, cn_24, ci_25, cn_25, ci_26, cn_26, ci_27, cn_27, p_X3_endPass_60, p_X3_sequenceOf, p_X6_becomeIdle]
  try rfl
set_option maxHeartbeats 8000000 in
theorem p_X5_put {C : Mem} {c0 : Nat} {j0 : Nat} {x1 : Int32} {x2 : Int32} {x3 : Int32} {x4 : Int32} {x5 : Int32} {M : Mem} : f_X5_put  c0 j0 x1 x2 x3 x4 x5 (mic C M) = mc C (f_X5_put  c0 j0 x1 x2 x3 x4 x5 M) := by
  unfold f_X5_put
  simp (maxSteps := 4000000) (disch := assumption) only [mc_none, mc_some, mc_ite, mc_bnd, bnd_mc, mc_nm, mc_wck, mc_bndX, bndX_mc, ci_0, cn_0, cl_0, cm_0, ci_1, cn_1, ci_2, cn_2, ci_3, cn_3, ci_4, cn_4, ci_5, cn_5, cl_5, cm_5, ci_6, cn_6, cl_6, cm_6, ci_7, cn_7, ci_8, cn_8, ci_9, cn_9, ci_20, cn_20, cc_20, ci_21, cn_21, cc_21, ci_22, cn_22, ci_23, cn_23, ci_24, cn_24, ci_25, cn_25, ci_26, cn_26, ci_27, cn_27]
  try rfl
set_option maxHeartbeats 8000000 in
theorem p_X5_removeOldest {C : Mem} {c0 : Nat} {j0 : Nat} {M : Mem} : f_X5_removeOldest  c0 j0 (mic C M) = mc C (f_X5_removeOldest  c0 j0 M) := by
  unfold f_X5_removeOldest
  simp (maxSteps := 4000000) (disch := assumption) only [mc_none, mc_some, mc_ite, mc_bnd, bnd_mc, mc_nm, mc_wck, mc_bndX, bndX_mc, ci_0, cn_0, cl_0, cm_0, ci_1, cn_1, ci_2, cn_2, ci_3, cn_3, ci_4, cn_4, ci_5, cn_5, cl_5, cm_5, ci_6, cn_6, cl_6, cm_6, ci_7, cn_7, ci_8, cn_8, ci_9, cn_9, ci_20, cn_20, cc_20, ci_21, cn_21, cc_21, ci_22, cn_22, ci_23, cn_23, ci_24, cn_24, ci_25, cn_25, ci_26, cn_26, ci_27, cn_27]
  try rfl
set_option maxHeartbeats 8000000 in
theorem p_X5_add_33 {C : Mem} {c0 : Nat} {j0 : Nat} {x1 : Int32} {x2 : Int32} {x3 : Int32} {x4 : Int32} {M : Mem} : f_X5_add_33  c0 j0 x1 x2 x3 x4 (mic C M) = mc C (f_X5_add_33  c0 j0 x1 x2 x3 x4 M) := by
  unfold f_X5_add_33
  simp (maxSteps := 4000000) (disch := assumption) only [mc_none, mc_some, mc_ite, mc_bnd, bnd_mc, mc_nm, mc_wck, mc_bndX, bndX_mc, ci_0, cn_0, cl_0, cm_0, ci_1, cn_1, ci_2, cn_2, ci_3, cn_3, ci_4, cn_4, ci_5, cn_5, cl_5, cm_5, ci_6, cn_6, cl_6, cm_6, ci_7, cn_7, ci_8, cn_8, ci_9, cn_9, ci_20, cn_20, cc_20, ci_21, cn_21, cc_21, ci_22, cn_22, ci_23, cn_23, ci_24, cn_24, ci_25, cn_25, ci_26, cn_26, ci_27, cn_27, p_X5_put]
  try rfl
set_option maxHeartbeats 8000000 in
theorem p_X5_add {C : Mem} {c0 : Nat} {j0 : Nat} {x1 : Int32} {x2 : Int32} {x3 : Int32} {x4 : Int32} {M : Mem} : f_X5_add  c0 j0 x1 x2 x3 x4 (mic C M) = mc C (f_X5_add  c0 j0 x1 x2 x3 x4 M) := by
  unfold f_X5_add
  simp (maxSteps := 4000000) (disch := assumption) only [mc_none, mc_some, mc_ite, mc_bnd, bnd_mc, mc_nm, mc_wck, mc_bndX, bndX_mc, ci_0, cn_0, cl_0, cm_0, ci_1, cn_1, ci_2, cn_2, ci_3, cn_3, ci_4, cn_4, ci_5, cn_5, cl_5, cm_5, ci_6, cn_6, cl_6, cm_6, ci_7, cn_7, ci_8, cn_8, ci_9, cn_9, ci_20, cn_20, cc_20, ci_21, cn_21, cc_21, ci_22, cn_22, ci_23, cn_23, ci_24, cn_24, ci_25, cn_25, ci_26, cn_26, ci_27, cn_27, p_X5_add_33, p_X5_removeOldest]
  try rfl
set_option maxHeartbeats 8000000 in
theorem p_X9_look_41 {C : Mem} {c0 : Nat} {j0 : Nat} {x1 : Int32} {x2 : Int32} {x3 : Int32} {xs0 : Int32} {cs1 : Nat} {js1 : Nat} {M : Mem} : f_X9_look_41  c0 j0 x1 x2 x3 xs0 cs1 js1 (mic C M) = mc C (f_X9_look_41  c0 j0 x1 x2 x3 xs0 cs1 js1 M) := by
  unfold f_X9_look_41
  simp (maxSteps := 4000000) (disch := assumption) only [mc_none, mc_some, mc_ite, mc_bnd, bnd_mc, mc_nm, mc_wck, mc_bndX, bndX_mc, ci_0, cn_0, cl_0, cm_0, ci_1, cn_1, ci_2, cn_2, ci_3, cn_3, ci_4, cn_4, ci_5, cn_5, cl_5, cm_5, ci_6, cn_6, cl_6, cm_6, ci_7, cn_7, ci_8, cn_8, ci_9, cn_9, ci_20, cn_20, cc_20, ci_21, cn_21, cc_21, ci_22, cn_22, ci_23, cn_23, ci_24, cn_24, ci_25, cn_25, ci_26, cn_26, ci_27, cn_27]
  try rfl
set_option maxHeartbeats 8000000 in
theorem p_X9_look_31 {C : Mem} {c0 : Nat} {j0 : Nat} {x1 : Int32} {x2 : Int32} {x3 : Int32} {cs0 : Nat} {js0 : Nat} {M : Mem} : f_X9_look_31  c0 j0 x1 x2 x3 cs0 js0 (mic C M) = mc C (f_X9_look_31  c0 j0 x1 x2 x3 cs0 js0 M) := by
  unfold f_X9_look_31
  simp (maxSteps := 4000000) (disch := assumption) only [mc_none, mc_some, mc_ite, mc_bnd, bnd_mc, mc_nm, mc_wck, mc_bndX, bndX_mc, ci_0, cn_0, cl_0, cm_0, ci_1, cn_1, ci_2, cn_2, ci_3, cn_3, ci_4, cn_4, ci_5, cn_5, cl_5, cm_5, ci_6, cn_6, cl_6, cm_6, ci_7, cn_7, ci_8, cn_8, ci_9, cn_9, ci_20, cn_20, cc_20, ci_21, cn_21, cc_21, ci_22, cn_22, ci_23, cn_23, ci_24, cn_24, ci_25, cn_25, ci_26, cn_26, ci_27, cn_27, p_X9_look_41]
  try rfl
set_option maxHeartbeats 8000000 in
theorem p_X9_look {C : Mem} {c0 : Nat} {j0 : Nat} {x1 : Int32} {x2 : Int32} {x3 : Int32} {x4 : Int32} {M : Mem} : f_X9_look  c0 j0 x1 x2 x3 x4 (mic C M) = mc C (f_X9_look  c0 j0 x1 x2 x3 x4 M) := by
  unfold f_X9_look
  simp (maxSteps := 4000000) (disch := assumption) only [mc_none, mc_some, mc_ite, mc_bnd, bnd_mc, mc_nm, mc_wck, mc_bndX, bndX_mc, ci_0, cn_0, cl_0, cm_0, ci_1, cn_1, ci_2, cn_2, ci_3, cn_3, ci_4, cn_4, ci_5, cn_5, cl_5, cm_5, ci_6, cn_6, cl_6, cm_6, ci_7, cn_7, ci_8, cn_8, ci_9, cn_9, ci_20, cn_20, cc_20, ci_21, cn_21, cc_21, ci_22, cn_22, ci_23, cn_23, ci_24, cn_24, ci_25, cn_25, ci_26, cn_26, ci_27, cn_27, p_X9_look_31, p_X9_look_41]
  try rfl
set_option maxHeartbeats 8000000 in
theorem p_X3_finishResult_170 {C : Mem} {c2 : Nat} {j2 : Nat} {M : Mem} : f_X3_finishResult_170  c2 j2 (mic C M) = mc C (f_X3_finishResult_170  c2 j2 M) := by
  unfold f_X3_finishResult_170
  simp (maxSteps := 4000000) (disch := assumption) only [mc_none, mc_some, mc_ite, mc_bnd, bnd_mc, mc_nm, mc_wck, mc_bndX, bndX_mc, ci_0, cn_0, cl_0, cm_0, ci_1, cn_1, ci_2, cn_2, ci_3, cn_3, ci_4, cn_4, ci_5, cn_5, cl_5, cm_5, ci_6, cn_6, cl_6, cm_6, ci_7, cn_7, ci_8, cn_8, ci_9, cn_9, ci_20, cn_20, cc_20, ci_21, cn_21, cc_21, ci_22, cn_22, ci_23, cn_23, ci_24, cn_24, ci_25, cn_25, ci_26, cn_26, ci_27, cn_27]
  try rfl
set_option maxHeartbeats 8000000 in
theorem p_X3_finishResult_53 {C : Mem} : ∀ (n : Nat) (c0 : Nat) (x1 : Int32) (c2 : Nat) (j2 : Nat) (x3 : Int32) (c4 : Nat) (j4 : Nat) (x5 : Int32) (x6 : Int32) (M : Mem), f_X3_finishResult_53  n c0 x1 c2 j2 x3 c4 j4 x5 x6 (mic C M) = mc C (f_X3_finishResult_53  n c0 x1 c2 j2 x3 c4 j4 x5 x6 M) := by
  intro n
  induction n with
  | zero => intro c0 x1 c2 j2 x3 c4 j4 x5 x6 M; rfl
  | succ n ih =>
    intro c0 x1 c2 j2 x3 c4 j4 x5 x6 M
    unfold f_X3_finishResult_53
    simp (maxSteps := 4000000) (disch := assumption) only [mc_none, mc_some, mc_ite, mc_bnd, bnd_mc, mc_nm, mc_wck, mc_bndX, bndX_mc, ci_0, cn_0, cl_0, cm_0, ci_1, cn_1, ci_2, cn_2, ci_3, cn_3, ci_4, cn_4, ci_5, cn_5, cl_5, cm_5, ci_6, cn_6, cl_6, cm_6, ci_7, cn_7, ci_8, cn_8, ci_9, cn_9, ci_20, cn_20, cc_20, ci_21, cn_21, cc_21, ci_22, cn_22, ci_23, cn_23, ci_24, cn_24, ci_25, cn_25, ci_26, cn_26, ci_27, cn_27, p_X1_addResult, p_X3_finishResult_170, p_X5_add, p_X5_put, p_X9_look, ih]
    try rfl
set_option maxHeartbeats 8000000 in
theorem p_X3_finishResult_44 {C : Mem} {c0 : Nat} {x1 : Int32} {c2 : Nat} {j2 : Nat} {x3 : Int32} {c4 : Nat} {j4 : Nat} {xs0 : Int32} {M : Mem} : f_X3_finishResult_44  c0 x1 c2 j2 x3 c4 j4 xs0 (mic C M) = mc C (f_X3_finishResult_44  c0 x1 c2 j2 x3 c4 j4 xs0 M) := by
  unfold f_X3_finishResult_44
  simp (maxSteps := 4000000) (disch := assumption) only [mc_none, mc_some, mc_ite, mc_bnd, bnd_mc, mc_nm, mc_wck, mc_bndX, bndX_mc, ci_0, cn_0, cl_0, cm_0, ci_1, cn_1, ci_2, cn_2, ci_3, cn_3, ci_4, cn_4, ci_5, cn_5, cl_5, cm_5, ci_6, cn_6, cl_6, cm_6, ci_7, cn_7, ci_8, cn_8, ci_9, cn_9, ci_20, cn_20, cc_20, ci_21, cn_21, cc_21, ci_22, cn_22, ci_23, cn_23, ci_24, cn_24, ci_25, cn_25, ci_26, cn_26, ci_27, cn_27, p_X3_finishResult_53, p_X6_forgetConversions]
  try rfl
set_option maxHeartbeats 8000000 in
theorem p_X3_finishResult {C : Mem} {c0 : Nat} {x1 : Int32} {c2 : Nat} {j2 : Nat} {M : Mem} : f_X3_finishResult  c0 x1 c2 j2 (mic C M) = mc C (f_X3_finishResult  c0 x1 c2 j2 M) := by
  unfold f_X3_finishResult
  simp (maxSteps := 4000000) (disch := assumption) only [mc_none, mc_some, mc_ite, mc_bnd, bnd_mc, mc_nm, mc_wck, mc_bndX, bndX_mc, ci_0, cn_0, cl_0, cm_0, ci_1, cn_1, ci_2, cn_2, ci_3, cn_3, ci_4, cn_4, ci_5, cn_5, cl_5, cm_5, ci_6, cn_6, cl_6, cm_6, ci_7, cn_7, ci_8, cn_8, ci_9, cn_9, ci_20, cn_20, cc_20, ci_21, cn_21, cc_21, ci_22, cn_22, ci_23, cn_23, ci_24, cn_24, ci_25, cn_25, ci_26, cn_26, ci_27, cn_27, p_X3_finishResult_44]
  try rfl
set_option maxHeartbeats 8000000 in
theorem p_X3_advanceConversion_51 {C : Mem} {c0 : Nat} {M : Mem} : f_X3_advanceConversion_51  c0 (mic C M) = mc C (f_X3_advanceConversion_51  c0 M) := by
  unfold f_X3_advanceConversion_51
  simp (maxSteps := 4000000) (disch := assumption) only [mc_none, mc_some, mc_ite, mc_bnd, bnd_mc, mc_nm, mc_wck, mc_bndX, bndX_mc, ci_0, cn_0, cl_0, cm_0, ci_1, cn_1, ci_2, cn_2, ci_3, cn_3, ci_4, cn_4, ci_5, cn_5, cl_5, cm_5, ci_6, cn_6, cl_6, cm_6, ci_7, cn_7, ci_8, cn_8, ci_9, cn_9, ci_20, cn_20, cc_20, ci_21, cn_21, cc_21, ci_22, cn_22, ci_23, cn_23, ci_24, cn_24, ci_25, cn_25, ci_26, cn_26, ci_27, cn_27, p_X3_endPass, p_X3_finishResult, p_X3_sequenceOf]
  try rfl
set_option maxHeartbeats 8000000 in
theorem p_X3_advanceConversion {C : Mem} {c0 : Nat} {M : Mem} : f_X3_advanceConversion  c0 (mic C M) = mc C (f_X3_advanceConversion  c0 M) := by
  unfold f_X3_advanceConversion
  simp (maxSteps := 4000000) (disch := assumption) only [mc_none, mc_some, mc_ite, mc_bnd, bnd_mc, mc_nm, mc_wck, mc_bndX, bndX_mc, ci_0, cn_0, cl_0, cm_0, ci_1, cn_1, ci_2, cn_2, ci_3, cn_3, ci_4, cn_4, ci_5, cn_5, cl_5, cm_5, ci_6, cn_6, cl_6, cm_6, ci_7, cn_7, ci_8, cn_8, ci_9, cn_9, ci_20, cn_20, cc_20, ci_21, cn_21, cc_21, ci_22, cn_22, ci_23, cn_23, ci_24, cn_24, ci_25, cn_25, ci_26, cn_26, ci_27, cn_27, p_X1_signalAt, p_X3_advanceConversion_51]
  try rfl
set_option maxHeartbeats 8000000 in
theorem p_X3_fireTrigger_40 {C : Mem} {c2 : Nat} {j2 : Nat} {M : Mem} : f_X3_fireTrigger_40  c2 j2 (mic C M) = mc C (f_X3_fireTrigger_40  c2 j2 M) := by
  unfold f_X3_fireTrigger_40
  simp (maxSteps := 4000000) (disch := assumption) only [mc_none, mc_some, mc_ite, mc_bnd, bnd_mc, mc_nm, mc_wck, mc_bndX, bndX_mc, ci_0, cn_0, cl_0, cm_0, ci_1, cn_1, ci_2, cn_2, ci_3, cn_3, ci_4, cn_4, ci_5, cn_5, cl_5, cm_5, ci_6, cn_6, cl_6, cm_6, ci_7, cn_7, ci_8, cn_8, ci_9, cn_9, ci_20, cn_20, cc_20, ci_21, cn_21, cc_21, ci_22, cn_22, ci_23, cn_23, ci_24, cn_24, ci_25, cn_25, ci_26, cn_26, ci_27, cn_27]
  try rfl
set_option maxHeartbeats 8000000 in
theorem p_X3_fireTrigger {C : Mem} {c0 : Nat} {x1 : Int32} {M : Mem} : f_X3_fireTrigger  c0 x1 (mic C M) = mc C (f_X3_fireTrigger  c0 x1 M) := by
  unfold f_X3_fireTrigger
  simp (maxSteps := 4000000) (disch := assumption) only [mc_none, mc_some, mc_ite, mc_bnd, bnd_mc, mc_nm, mc_wck, mc_bndX, bndX_mc, ci_0, cn_0, cl_0, cm_0, ci_1, cn_1, ci_2, cn_2, ci_3, cn_3, ci_4, cn_4, ci_5, cn_5, cl_5, cm_5, ci_6, cn_6, cl_6, cm_6, ci_7, cn_7, ci_8, cn_8, ci_9, cn_9, ci_20, cn_20, cc_20, ci_21, cn_21, cc_21, ci_22, cn_22, ci_23, cn_23, ci_24, cn_24, ci_25, cn_25, ci_26, cn_26, ci_27, cn_27, p_X3_fireTrigger_40, p_X3_sequenceOf, p_X3_startSequence, p_X6_isReady]
  try rfl
set_option maxHeartbeats 8000000 in
theorem p_X6_nextChannel_31 {C : Mem} {M : Mem} : f_X6_nextChannel_31 (mic C M) = mc C (f_X6_nextChannel_31   M) := by
  unfold f_X6_nextChannel_31
  simp (maxSteps := 4000000) (disch := assumption) only [mc_none, mc_some, mc_ite, mc_bnd, bnd_mc, mc_nm, mc_wck, mc_bndX, bndX_mc, ci_0, cn_0, cl_0, cm_0, ci_1, cn_1, ci_2, cn_2, ci_3, cn_3, ci_4, cn_4, ci_5, cn_5, cl_5, cm_5, ci_6, cn_6, cl_6, cm_6, ci_7, cn_7, ci_8, cn_8, ci_9, cn_9, ci_20, cn_20, cc_20, ci_21, cn_21, cc_21, ci_22, cn_22, ci_23, cn_23, ci_24, cn_24, ci_25, cn_25, ci_26, cn_26, ci_27, cn_27]
  try rfl
set_option maxHeartbeats 8000000 in
theorem p_X6_nextChannel {C : Mem} {c0 : Nat} {j0 : Nat} {M : Mem} : f_X6_nextChannel  c0 j0 (mic C M) = mc C (f_X6_nextChannel  c0 j0 M) := by
  unfold f_X6_nextChannel
  simp (maxSteps := 4000000) (disch := assumption) only [mc_none, mc_some, mc_ite, mc_bnd, bnd_mc, mc_nm, mc_wck, mc_bndX, bndX_mc, ci_0, cn_0, cl_0, cm_0, ci_1, cn_1, ci_2, cn_2, ci_3, cn_3, ci_4, cn_4, ci_5, cn_5, cl_5, cm_5, ci_6, cn_6, cl_6, cm_6, ci_7, cn_7, ci_8, cn_8, ci_9, cn_9, ci_20, cn_20, cc_20, ci_21, cn_21, cc_21, ci_22, cn_22, ci_23, cn_23, ci_24, cn_24, ci_25, cn_25, ci_26, cn_26, ci_27, cn_27, p_X6_nextChannel_31]
  try rfl
set_option maxHeartbeats 8000000 in
theorem p_X3_startConversion_43 {C : Mem} {c0 : Nat} {M : Mem} : f_X3_startConversion_43  c0 (mic C M) = mc C (f_X3_startConversion_43  c0 M) := by
  unfold f_X3_startConversion_43
  simp (maxSteps := 4000000) (disch := assumption) only [mc_none, mc_some, mc_ite, mc_bnd, bnd_mc, mc_nm, mc_wck, mc_bndX, bndX_mc, ci_0, cn_0, cl_0, cm_0, ci_1, cn_1, ci_2, cn_2, ci_3, cn_3, ci_4, cn_4, ci_5, cn_5, cl_5, cm_5, ci_6, cn_6, cl_6, cm_6, ci_7, cn_7, ci_8, cn_8, ci_9, cn_9, ci_20, cn_20, cc_20, ci_21, cn_21, cc_21, ci_22, cn_22, ci_23, cn_23, ci_24, cn_24, ci_25, cn_25, ci_26, cn_26, ci_27, cn_27, p_X1_conversionLength, p_X3_sequenceOf, p_X6_nextChannel]
  try rfl
set_option maxHeartbeats 8000000 in
theorem p_X3_startConversion {C : Mem} {c0 : Nat} {M : Mem} : f_X3_startConversion  c0 (mic C M) = mc C (f_X3_startConversion  c0 M) := by
  unfold f_X3_startConversion
  simp (maxSteps := 4000000) (disch := assumption) only [mc_none, mc_some, mc_ite, mc_bnd, bnd_mc, mc_nm, mc_wck, mc_bndX, bndX_mc, ci_0, cn_0, cl_0, cm_0, ci_1, cn_1, ci_2, cn_2, ci_3, cn_3, ci_4, cn_4, ci_5, cn_5, cl_5, cm_5, ci_6, cn_6, cl_6, cm_6, ci_7, cn_7, ci_8, cn_8, ci_9, cn_9, ci_20, cn_20, cc_20, ci_21, cn_21, cc_21, ci_22, cn_22, ci_23, cn_23, ci_24, cn_24, ci_25, cn_25, ci_26, cn_26, ci_27, cn_27, p_X3_startConversion_43]
  try rfl
set_option maxHeartbeats 8000000 in
theorem p_X5_number {C : Mem} {c0 : Nat} {j0 : Nat} {x1 : Int32} {x2 : Int32} {M : Mem} : f_X5_number  c0 j0 x1 x2 (mic C M) = mc C (f_X5_number  c0 j0 x1 x2 M) := by
  unfold f_X5_number
  simp (maxSteps := 4000000) (disch := assumption) only [mc_none, mc_some, mc_ite, mc_bnd, bnd_mc, mc_nm, mc_wck, mc_bndX, bndX_mc, ci_0, cn_0, cl_0, cm_0, ci_1, cn_1, ci_2, cn_2, ci_3, cn_3, ci_4, cn_4, ci_5, cn_5, cl_5, cm_5, ci_6, cn_6, cl_6, cm_6, ci_7, cn_7, ci_8, cn_8, ci_9, cn_9, ci_20, cn_20, cc_20, ci_21, cn_21, cc_21, ci_22, cn_22, ci_23, cn_23, ci_24, cn_24, ci_25, cn_25, ci_26, cn_26, ci_27, cn_27]
  try rfl
set_option maxHeartbeats 8000000 in
theorem p_X5_oldestNumber {C : Mem} {c0 : Nat} {j0 : Nat} {x1 : Int32} {M : Mem} : f_X5_oldestNumber  c0 j0 x1 (mic C M) = mc C (f_X5_oldestNumber  c0 j0 x1 M) := by
  unfold f_X5_oldestNumber
  simp (maxSteps := 4000000) (disch := assumption) only [mc_none, mc_some, mc_ite, mc_bnd, bnd_mc, mc_nm, mc_wck, mc_bndX, bndX_mc, ci_0, cn_0, cl_0, cm_0, ci_1, cn_1, ci_2, cn_2, ci_3, cn_3, ci_4, cn_4, ci_5, cn_5, cl_5, cm_5, ci_6, cn_6, cl_6, cm_6, ci_7, cn_7, ci_8, cn_8, ci_9, cn_9, ci_20, cn_20, cc_20, ci_21, cn_21, cc_21, ci_22, cn_22, ci_23, cn_23, ci_24, cn_24, ci_25, cn_25, ci_26, cn_26, ci_27, cn_27, p_X5_number]
  try rfl
set_option maxHeartbeats 8000000 in
theorem p_X3_transferOldest {C : Mem} {c0 : Nat} {M : Mem} : f_X3_transferOldest  c0 (mic C M) = mc C (f_X3_transferOldest  c0 M) := by
  unfold f_X3_transferOldest
  simp (maxSteps := 4000000) (disch := assumption) only [mc_none, mc_some, mc_ite, mc_bnd, bnd_mc, mc_nm, mc_wck, mc_bndX, bndX_mc, ci_0, cn_0, cl_0, cm_0, ci_1, cn_1, ci_2, cn_2, ci_3, cn_3, ci_4, cn_4, ci_5, cn_5, cl_5, cm_5, ci_6, cn_6, cl_6, cm_6, ci_7, cn_7, ci_8, cn_8, ci_9, cn_9, ci_20, cn_20, cc_20, ci_21, cn_21, cc_21, ci_22, cn_22, ci_23, cn_23, ci_24, cn_24, ci_25, cn_25, ci_26, cn_26, ci_27, cn_27, p_X5_add, p_X5_oldestNumber, p_X5_removeOldest]
  try rfl
set_option maxHeartbeats 8000000 in
theorem p_X8_isDue_33 {C : Mem} {M : Mem} : f_X8_isDue_33 (mic C M) = mc C (f_X8_isDue_33   M) := by
  unfold f_X8_isDue_33
  simp (maxSteps := 4000000) (disch := assumption) only [mc_none, mc_some, mc_ite, mc_bnd, bnd_mc, mc_nm, mc_wck, mc_bndX, bndX_mc, ci_0, cn_0, cl_0, cm_0, ci_1, cn_1, ci_2, cn_2, ci_3, cn_3, ci_4, cn_4, ci_5, cn_5, cl_5, cm_5, ci_6, cn_6, cl_6, cm_6, ci_7, cn_7, ci_8, cn_8, ci_9, cn_9, ci_20, cn_20, cc_20, ci_21, cn_21, cc_21, ci_22, cn_22, ci_23, cn_23, ci_24, cn_24, ci_25, cn_25, ci_26, cn_26, ci_27, cn_27]
  try rfl
set_option maxHeartbeats 8000000 in
theorem p_X8_isDue {C : Mem} {c0 : Nat} {j0 : Nat} {x1 : Int32} {M : Mem} : f_X8_isDue  c0 j0 x1 (mic C M) = mc C (f_X8_isDue  c0 j0 x1 M) := by
  unfold f_X8_isDue
  simp (maxSteps := 4000000) (disch := assumption) only [mc_none, mc_some, mc_ite, mc_bnd, bnd_mc, mc_nm, mc_wck, mc_bndX, bndX_mc, ci_0, cn_0, cl_0, cm_0, ci_1, cn_1, ci_2, cn_2, ci_3, cn_3, ci_4, cn_4, ci_5, cn_5, cl_5, cm_5, ci_6, cn_6, cl_6, cm_6, ci_7, cn_7, ci_8, cn_8, ci_9, cn_9, ci_20, cn_20, cc_20, ci_21, cn_21, cc_21, ci_22, cn_22, ci_23, cn_23, ci_24, cn_24, ci_25, cn_25, ci_26, cn_26, ci_27, cn_27, p_X8_isDue_33]
  try rfl
set_option maxHeartbeats 8000000 in
theorem p_X3_passCycle_88 {C : Mem} {c0 : Nat} {M : Mem} : f_X3_passCycle_88  c0 (mic C M) = mc C (f_X3_passCycle_88  c0 M) := by
  unfold f_X3_passCycle_88
  simp (maxSteps := 4000000) (disch := assumption) only [mc_none, mc_some, mc_ite, mc_bnd, bnd_mc, mc_nm, mc_wck, mc_bndX, bndX_mc, ci_0, cn_0, cl_0, cm_0, ci_1, cn_1, ci_2, cn_2, ci_3, cn_3, ci_4, cn_4, ci_5, cn_5, cl_5, cm_5, ci_6, cn_6, cl_6, cm_6, ci_7, cn_7, ci_8, cn_8, ci_9, cn_9, ci_20, cn_20, cc_20, ci_21, cn_21, cc_21, ci_22, cn_22, ci_23, cn_23, ci_24, cn_24, ci_25, cn_25, ci_26, cn_26, ci_27, cn_27]
  try rfl
set_option maxHeartbeats 8000000 in
theorem p_X3_passCycle_63 {C : Mem} {c0 : Nat} {M : Mem} : f_X3_passCycle_63  c0 (mic C M) = mc C (f_X3_passCycle_63  c0 M) := by
  unfold f_X3_passCycle_63
  simp (maxSteps := 4000000) (disch := assumption) only [mc_none, mc_some, mc_ite, mc_bnd, bnd_mc, mc_nm, mc_wck, mc_bndX, bndX_mc, ci_0, cn_0, cl_0, cm_0, ci_1, cn_1, ci_2, cn_2, ci_3, cn_3, ci_4, cn_4, ci_5, cn_5, cl_5, cm_5, ci_6, cn_6, cl_6, cm_6, ci_7, cn_7, ci_8, cn_8, ci_9, cn_9, ci_20, cn_20, cc_20, ci_21, cn_21, cc_21, ci_22, cn_22, ci_23, cn_23, ci_24, cn_24, ci_25, cn_25, ci_26, cn_26, ci_27, cn_27, p_X3_passCycle_88, p_X3_transferOldest]
  try rfl
set_option maxHeartbeats 8000000 in
theorem p_X3_passCycle_49 {C : Mem} {c0 : Nat} {M : Mem} : f_X3_passCycle_49  c0 (mic C M) = mc C (f_X3_passCycle_49  c0 M) := by
  unfold f_X3_passCycle_49
  simp (maxSteps := 4000000) (disch := assumption) only [mc_none, mc_some, mc_ite, mc_bnd, bnd_mc, mc_nm, mc_wck, mc_bndX, bndX_mc, ci_0, cn_0, cl_0, cm_0, ci_1, cn_1, ci_2, cn_2, ci_3, cn_3, ci_4, cn_4, ci_5, cn_5, cl_5, cm_5, ci_6, cn_6, cl_6, cm_6, ci_7, cn_7, ci_8, cn_8, ci_9, cn_9, ci_20, cn_20, cc_20, ci_21, cn_21, cc_21, ci_22, cn_22, ci_23, cn_23, ci_24, cn_24, ci_25, cn_25, ci_26, cn_26, ci_27, cn_27, p_X3_advanceConversion, p_X3_passCycle_63]
  try rfl
set_option maxHeartbeats 8000000 in
theorem p_X3_passCycle_29 {C : Mem} {r2 : Nat → Int32 → Mem → Option (Unit × Mem)} (hr2 : ∀ (c0 : Nat) (x1 : Int32) (M : Mem), r2 c0 x1 (mic C M) = mc C (r2 c0 x1 M)) {c0 : Nat} {x1 : Int32} {M : Mem} : f_X3_passCycle_29 r2 c0 x1 (mic C M) = mc C (f_X3_passCycle_29 r2 c0 x1 M) := by
  unfold f_X3_passCycle_29
  simp (maxSteps := 4000000) (disch := assumption) only [mc_none, mc_some, mc_ite, mc_bnd, bnd_mc, mc_nm, mc_wck, mc_bndX, bndX_mc, ci_0, cn_0, cl_0, cm_0, ci_1, cn_1, ci_2, cn_2, ci_3, cn_3, ci_4, cn_4, ci_5, cn_5, cl_5, cm_5, ci_6, cn_6, cl_6, cm_6, ci_7, cn_7, ci_8, cn_8, ci_9, cn_9, ci_20, cn_20, cc_20, ci_21, cn_21, cc_21, ci_22, cn_22, ci_23, cn_23, ci_24, cn_24, ci_25, cn_25, ci_26, cn_26, ci_27, cn_27, hr2]
  try rfl
set_option maxHeartbeats 8000000 in
theorem p_X3_passCycle_2 {C : Mem} : ∀ (n : Nat) (c0 : Nat) (x1 : Int32) (M : Mem), f_X3_passCycle_2  n c0 x1 (mic C M) = mc C (f_X3_passCycle_2  n c0 x1 M) := by
  intro n
  induction n with
  | zero => intro c0 x1 M; rfl
  | succ n ih =>
    intro c0 x1 M
    unfold f_X3_passCycle_2
    simp (maxSteps := 4000000) (disch := assumption) only [mc_none, mc_some, mc_ite, mc_bnd, bnd_mc, mc_nm, mc_wck, mc_bndX, bndX_mc, ci_0, cn_0, cl_0, cm_0, ci_1, cn_1, ci_2, cn_2, ci_3, cn_3, ci_4, cn_4, ci_5, cn_5, cl_5, cm_5, ci_6, cn_6, cl_6, cm_6, ci_7, cn_7, ci_8, cn_8, ci_9, cn_9, ci_20, cn_20, cc_20, ci_21, cn_21, cc_21, ci_22, cn_22, ci_23, cn_23, ci_24, cn_24, ci_25, cn_25, ci_26, cn_26, ci_27, cn_27, p_X3_fireTrigger, p_X3_passCycle_29, p_X3_passCycle_49, p_X3_startConversion, p_X8_isDue, ih]
    try rfl
set_option maxHeartbeats 8000000 in
theorem p_X3_passCycle {C : Mem} {c0 : Nat} {M : Mem} : f_X3_passCycle  c0 (mic C M) = mc C (f_X3_passCycle  c0 M) := by
  unfold f_X3_passCycle
  simp (maxSteps := 4000000) (disch := assumption) only [mc_none, mc_some, mc_ite, mc_bnd, bnd_mc, mc_nm, mc_wck, mc_bndX, bndX_mc, ci_0, cn_0, cl_0, cm_0, ci_1, cn_1, ci_2, cn_2, ci_3, cn_3, ci_4, cn_4, ci_5, cn_5, cl_5, cm_5, ci_6, cn_6, cl_6, cm_6, ci_7, cn_7, ci_8, cn_8, ci_9, cn_9, ci_20, cn_20, cc_20, ci_21, cn_21, cc_21, ci_22, cn_22, ci_23, cn_23, ci_24, cn_24, ci_25, cn_25, ci_26, cn_26, ci_27, cn_27, p_X3_passCycle_2]
  try rfl
set_option maxHeartbeats 8000000 in
theorem p_X3_stopRegular {C : Mem} {c0 : Nat} {M : Mem} : f_X3_stopRegular  c0 (mic C M) = mc C (f_X3_stopRegular  c0 M) := by
  unfold f_X3_stopRegular
  simp (maxSteps := 4000000) (disch := assumption) only [mc_none, mc_some, mc_ite, mc_bnd, bnd_mc, mc_nm, mc_wck, mc_bndX, bndX_mc, ci_0, cn_0, cl_0, cm_0, ci_1, cn_1, ci_2, cn_2, ci_3, cn_3, ci_4, cn_4, ci_5, cn_5, cl_5, cm_5, ci_6, cn_6, cl_6, cm_6, ci_7, cn_7, ci_8, cn_8, ci_9, cn_9, ci_20, cn_20, cc_20, ci_21, cn_21, cc_21, ci_22, cn_22, ci_23, cn_23, ci_24, cn_24, ci_25, cn_25, ci_26, cn_26, ci_27, cn_27, p_X3_breakOffRegular, p_X6_becomeIdle, p_X6_forgetConversions]
  try rfl
set_option maxHeartbeats 8000000 in
theorem p_X4_fail {C : Mem} {x1 : Int32} {M : Mem} : f_X4_fail  x1 (mic C M) = mc C (f_X4_fail  x1 M) := by
  unfold f_X4_fail
  simp (maxSteps := 4000000) (disch := assumption) only [mc_none, mc_some, mc_ite, mc_bnd, bnd_mc, mc_nm, mc_wck, mc_bndX, bndX_mc, ci_0, cn_0, cl_0, cm_0, ci_1, cn_1, ci_2, cn_2, ci_3, cn_3, ci_4, cn_4, ci_5, cn_5, cl_5, cm_5, ci_6, cn_6, cl_6, cm_6, ci_7, cn_7, ci_8, cn_8, ci_9, cn_9, ci_20, cn_20, cc_20, ci_21, cn_21, cc_21, ci_22, cn_22, ci_23, cn_23, ci_24, cn_24, ci_25, cn_25, ci_26, cn_26, ci_27, cn_27]
  try rfl
set_option maxHeartbeats 8000000 in
theorem p_X10_isProperty_35 {C : Mem} {M : Mem} : f_X10_isProperty_35 (mic C M) = mc C (f_X10_isProperty_35   M) := by
  unfold f_X10_isProperty_35
  simp (maxSteps := 4000000) (disch := assumption) only [mc_none, mc_some, mc_ite, mc_bnd, bnd_mc, mc_nm, mc_wck, mc_bndX, bndX_mc, ci_0, cn_0, cl_0, cm_0, ci_1, cn_1, ci_2, cn_2, ci_3, cn_3, ci_4, cn_4, ci_5, cn_5, cl_5, cm_5, ci_6, cn_6, cl_6, cm_6, ci_7, cn_7, ci_8, cn_8, ci_9, cn_9, ci_20, cn_20, cc_20, ci_21, cn_21, cc_21, ci_22, cn_22, ci_23, cn_23, ci_24, cn_24, ci_25, cn_25, ci_26, cn_26, ci_27, cn_27]
  try rfl
set_option maxHeartbeats 8000000 in
theorem p_X10_isProperty {C : Mem} {w0 : Nat} {M : Mem} : f_X10_isProperty  w0 (mic C M) = mc C (f_X10_isProperty  w0 M) := by
  unfold f_X10_isProperty
  simp (maxSteps := 4000000) (disch := assumption) only [mc_none, mc_some, mc_ite, mc_bnd, bnd_mc, mc_nm, mc_wck, mc_bndX, bndX_mc, ci_0, cn_0, cl_0, cm_0, ci_1, cn_1, ci_2, cn_2, ci_3, cn_3, ci_4, cn_4, ci_5, cn_5, cl_5, cm_5, ci_6, cn_6, cl_6, cm_6, ci_7, cn_7, ci_8, cn_8, ci_9, cn_9, ci_20, cn_20, cc_20, ci_21, cn_21, cc_21, ci_22, cn_22, ci_23, cn_23, ci_24, cn_24, ci_25, cn_25, ci_26, cn_26, ci_27, cn_27, p_X10_isProperty_35]
  try rfl
set_option maxHeartbeats 8000000 in
theorem p_X4_setProperty {C : Mem} {c0 : Nat} {j0 : Nat} {w1 : Nat} {x2 : Int32} {M : Mem} : f_X4_setProperty  c0 j0 w1 x2 (mic C M) = mc C (f_X4_setProperty  c0 j0 w1 x2 M) := by
  unfold f_X4_setProperty
  simp (maxSteps := 4000000) (disch := assumption) only [mc_none, mc_some, mc_ite, mc_bnd, bnd_mc, mc_nm, mc_wck, mc_bndX, bndX_mc, ci_0, cn_0, cl_0, cm_0, ci_1, cn_1, ci_2, cn_2, ci_3, cn_3, ci_4, cn_4, ci_5, cn_5, cl_5, cm_5, ci_6, cn_6, cl_6, cm_6, ci_7, cn_7, ci_8, cn_8, ci_9, cn_9, ci_20, cn_20, cc_20, ci_21, cn_21, cc_21, ci_22, cn_22, ci_23, cn_23, ci_24, cn_24, ci_25, cn_25, ci_26, cn_26, ci_27, cn_27]
  try rfl
set_option maxHeartbeats 8000000 in
theorem p_X10_of_10 {C : Mem} : ∀ (n : Nat) (y0 : Int64) (x3 : Int32) (x4 : Int32) (M : Mem), f_X10_of_10  n y0 x3 x4 (mic C M) = mc C (f_X10_of_10  n y0 x3 x4 M) := by
  intro n
  induction n with
  | zero => intro y0 x3 x4 M; rfl
  | succ n ih =>
    intro y0 x3 x4 M
    unfold f_X10_of_10
    simp (maxSteps := 4000000) (disch := assumption) only [mc_none, mc_some, mc_ite, mc_bnd, bnd_mc, mc_nm, mc_wck, mc_bndX, bndX_mc, ci_0, cn_0, cl_0, cm_0, ci_1, cn_1, ci_2, cn_2, ci_3, cn_3, ci_4, cn_4, ci_5, cn_5, cl_5, cm_5, ci_6, cn_6, cl_6, cm_6, ci_7, cn_7, ci_8, cn_8, ci_9, cn_9, ci_20, cn_20, cc_20, ci_21, cn_21, cc_21, ci_22, cn_22, ci_23, cn_23, ci_24, cn_24, ci_25, cn_25, ci_26, cn_26, ci_27, cn_27, ih]
    try rfl
set_option maxHeartbeats 8000000 in
theorem p_X10_of {C : Mem} {y0 : Int64} {M : Mem} : f_X10_of  y0 (mic C M) = mc C (f_X10_of  y0 M) := by
  unfold f_X10_of
  simp (maxSteps := 4000000) (disch := assumption) only [mc_none, mc_some, mc_ite, mc_bnd, bnd_mc, mc_nm, mc_wck, mc_bndX, bndX_mc, ci_0, cn_0, cl_0, cm_0, ci_1, cn_1, ci_2, cn_2, ci_3, cn_3, ci_4, cn_4, ci_5, cn_5, cl_5, cm_5, ci_6, cn_6, cl_6, cm_6, ci_7, cn_7, ci_8, cn_8, ci_9, cn_9, ci_20, cn_20, cc_20, ci_21, cn_21, cc_21, ci_22, cn_22, ci_23, cn_23, ci_24, cn_24, ci_25, cn_25, ci_26, cn_26, ci_27, cn_27, p_X10_of_10]
  try rfl
set_option maxHeartbeats 8000000 in
theorem p_X7_readRun_99 {C : Mem} {x1 : Int32} {x4 : Int32} {x5 : Int32} {M : Mem} : f_X7_readRun_99  x1 x4 x5 (mic C M) = mc C (f_X7_readRun_99  x1 x4 x5 M) := by
  unfold f_X7_readRun_99
  simp (maxSteps := 4000000) (disch := assumption) only [mc_none, mc_some, mc_ite, mc_bnd, bnd_mc, mc_nm, mc_wck, mc_bndX, bndX_mc, ci_0, cn_0, cl_0, cm_0, ci_1, cn_1, ci_2, cn_2, ci_3, cn_3, ci_4, cn_4, ci_5, cn_5, cl_5, cm_5, ci_6, cn_6, cl_6, cm_6, ci_7, cn_7, ci_8, cn_8, ci_9, cn_9, ci_20, cn_20, cc_20, ci_21, cn_21, cc_21, ci_22, cn_22, ci_23, cn_23, ci_24, cn_24, ci_25, cn_25, ci_26, cn_26, ci_27, cn_27]
  try rfl
set_option maxHeartbeats 8000000 in
theorem p_X7_readRun_16 {C : Mem} : ∀ (n : Nat) (x1 : Int32) (x2 : Int32) (x3 : Int32) (x4 : Int32) (x5 : Int32) (M : Mem), f_X7_readRun_16  n x1 x2 x3 x4 x5 (mic C M) = mc C (f_X7_readRun_16  n x1 x2 x3 x4 x5 M) := by
  intro n
  induction n with
  | zero => intro x1 x2 x3 x4 x5 M; rfl
  | succ n ih =>
    intro x1 x2 x3 x4 x5 M
    unfold f_X7_readRun_16
    simp (maxSteps := 4000000) (disch := assumption) only [mc_none, mc_some, mc_ite, mc_bnd, bnd_mc, mc_nm, mc_wck, mc_bndX, bndX_mc, ci_0, cn_0, cl_0, cm_0, ci_1, cn_1, ci_2, cn_2, ci_3, cn_3, ci_4, cn_4, ci_5, cn_5, cl_5, cm_5, ci_6, cn_6, cl_6, cm_6, ci_7, cn_7, ci_8, cn_8, ci_9, cn_9, ci_20, cn_20, cc_20, ci_21, cn_21, cc_21, ci_22, cn_22, ci_23, cn_23, ci_24, cn_24, ci_25, cn_25, ci_26, cn_26, ci_27, cn_27, p_X7_readRun_99, ih]
    try rfl
set_option maxHeartbeats 8000000 in
theorem p_X7_readRun {C : Mem} {x1 : Int32} {x2 : Int32} {x3 : Int32} {x4 : Int32} {M : Mem} : f_X7_readRun  x1 x2 x3 x4 (mic C M) = mc C (f_X7_readRun  x1 x2 x3 x4 M) := by
  unfold f_X7_readRun
  simp (maxSteps := 4000000) (disch := assumption) only [mc_none, mc_some, mc_ite, mc_bnd, bnd_mc, mc_nm, mc_wck, mc_bndX, bndX_mc, ci_0, cn_0, cl_0, cm_0, ci_1, cn_1, ci_2, cn_2, ci_3, cn_3, ci_4, cn_4, ci_5, cn_5, cl_5, cm_5, ci_6, cn_6, cl_6, cm_6, ci_7, cn_7, ci_8, cn_8, ci_9, cn_9, ci_20, cn_20, cc_20, ci_21, cn_21, cc_21, ci_22, cn_22, ci_23, cn_23, ci_24, cn_24, ci_25, cn_25, ci_26, cn_26, ci_27, cn_27, p_X7_readRun_16]
  try rfl
set_option maxHeartbeats 8000000 in
theorem p_X7_next_170 {C : Mem} {x1 : Int32} {M : Mem} : f_X7_next_170  x1 (mic C M) = mc C (f_X7_next_170  x1 M) := by
  unfold f_X7_next_170
  simp (maxSteps := 4000000) (disch := assumption) only [mc_none, mc_some, mc_ite, mc_bnd, bnd_mc, mc_nm, mc_wck, mc_bndX, bndX_mc, ci_0, cn_0, cl_0, cm_0, ci_1, cn_1, ci_2, cn_2, ci_3, cn_3, ci_4, cn_4, ci_5, cn_5, cl_5, cm_5, ci_6, cn_6, cl_6, cm_6, ci_7, cn_7, ci_8, cn_8, ci_9, cn_9, ci_20, cn_20, cc_20, ci_21, cn_21, cc_21, ci_22, cn_22, ci_23, cn_23, ci_24, cn_24, ci_25, cn_25, ci_26, cn_26, ci_27, cn_27]
  try rfl
set_option maxHeartbeats 8000000 in
theorem p_X7_next_139 {C : Mem} {x1 : Int32} {M : Mem} : f_X7_next_139  x1 (mic C M) = mc C (f_X7_next_139  x1 M) := by
  unfold f_X7_next_139
  simp (maxSteps := 4000000) (disch := assumption) only [mc_none, mc_some, mc_ite, mc_bnd, bnd_mc, mc_nm, mc_wck, mc_bndX, bndX_mc, ci_0, cn_0, cl_0, cm_0, ci_1, cn_1, ci_2, cn_2, ci_3, cn_3, ci_4, cn_4, ci_5, cn_5, cl_5, cm_5, ci_6, cn_6, cl_6, cm_6, ci_7, cn_7, ci_8, cn_8, ci_9, cn_9, ci_20, cn_20, cc_20, ci_21, cn_21, cc_21, ci_22, cn_22, ci_23, cn_23, ci_24, cn_24, ci_25, cn_25, ci_26, cn_26, ci_27, cn_27, p_X7_next_170, p_X7_readRun]
  try rfl
set_option maxHeartbeats 8000000 in
theorem p_X7_next_133 {C : Mem} {ws0 : Nat} {M : Mem} : f_X7_next_133  ws0 (mic C M) = mc C (f_X7_next_133  ws0 M) := by
  unfold f_X7_next_133
  simp (maxSteps := 4000000) (disch := assumption) only [mc_none, mc_some, mc_ite, mc_bnd, bnd_mc, mc_nm, mc_wck, mc_bndX, bndX_mc, ci_0, cn_0, cl_0, cm_0, ci_1, cn_1, ci_2, cn_2, ci_3, cn_3, ci_4, cn_4, ci_5, cn_5, cl_5, cm_5, ci_6, cn_6, cl_6, cm_6, ci_7, cn_7, ci_8, cn_8, ci_9, cn_9, ci_20, cn_20, cc_20, ci_21, cn_21, cc_21, ci_22, cn_22, ci_23, cn_23, ci_24, cn_24, ci_25, cn_25, ci_26, cn_26, ci_27, cn_27]
  try rfl
set_option maxHeartbeats 8000000 in
theorem p_X7_next_41 {C : Mem} {x1 : Int32} {M : Mem} : f_X7_next_41  x1 (mic C M) = mc C (f_X7_next_41  x1 M) := by
  unfold f_X7_next_41
  simp (maxSteps := 4000000) (disch := assumption) only [mc_none, mc_some, mc_ite, mc_bnd, bnd_mc, mc_nm, mc_wck, mc_bndX, bndX_mc, ci_0, cn_0, cl_0, cm_0, ci_1, cn_1, ci_2, cn_2, ci_3, cn_3, ci_4, cn_4, ci_5, cn_5, cl_5, cm_5, ci_6, cn_6, cl_6, cm_6, ci_7, cn_7, ci_8, cn_8, ci_9, cn_9, ci_20, cn_20, cc_20, ci_21, cn_21, cc_21, ci_22, cn_22, ci_23, cn_23, ci_24, cn_24, ci_25, cn_25, ci_26, cn_26, ci_27, cn_27, p_X10_of, p_X7_next_133, p_X7_next_139, p_X7_readRun]
  try rfl
set_option maxHeartbeats 8000000 in
theorem p_X7_next_35 {C : Mem} {r5 : Int32 → Mem → Option (Unit × Mem)} (hr5 : ∀ (x1 : Int32) (M : Mem), r5 x1 (mic C M) = mc C (r5 x1 M)) {x1 : Int32} {M : Mem} : f_X7_next_35 r5 x1 (mic C M) = mc C (f_X7_next_35 r5 x1 M) := by
  unfold f_X7_next_35
  simp (maxSteps := 4000000) (disch := assumption) only [mc_none, mc_some, mc_ite, mc_bnd, bnd_mc, mc_nm, mc_wck, mc_bndX, bndX_mc, ci_0, cn_0, cl_0, cm_0, ci_1, cn_1, ci_2, cn_2, ci_3, cn_3, ci_4, cn_4, ci_5, cn_5, cl_5, cm_5, ci_6, cn_6, cl_6, cm_6, ci_7, cn_7, ci_8, cn_8, ci_9, cn_9, ci_20, cn_20, cc_20, ci_21, cn_21, cc_21, ci_22, cn_22, ci_23, cn_23, ci_24, cn_24, ci_25, cn_25, ci_26, cn_26, ci_27, cn_27, hr5]
  try rfl
set_option maxHeartbeats 8000000 in
theorem p_X7_next_5 {C : Mem} : ∀ (n : Nat) (x1 : Int32) (M : Mem), f_X7_next_5  n x1 (mic C M) = mc C (f_X7_next_5  n x1 M) := by
  intro n
  induction n with
  | zero => intro x1 M; rfl
  | succ n ih =>
    intro x1 M
    unfold f_X7_next_5
    simp (maxSteps := 4000000) (disch := assumption) only [mc_none, mc_some, mc_ite, mc_bnd, bnd_mc, mc_nm, mc_wck, mc_bndX, bndX_mc, ci_0, cn_0, cl_0, cm_0, ci_1, cn_1, ci_2, cn_2, ci_3, cn_3, ci_4, cn_4, ci_5, cn_5, cl_5, cm_5, ci_6, cn_6, cl_6, cm_6, ci_7, cn_7, ci_8, cn_8, ci_9, cn_9, ci_20, cn_20, cc_20, ci_21, cn_21, cc_21, ci_22, cn_22, ci_23, cn_23, ci_24, cn_24, ci_25, cn_25, ci_26, cn_26, ci_27, cn_27, p_X7_next_35, p_X7_next_41, ih]
    try rfl
set_option maxHeartbeats 8000000 in
theorem p_X7_next {C : Mem} {M : Mem} : f_X7_next (mic C M) = mc C (f_X7_next   M) := by
  unfold f_X7_next
  simp (maxSteps := 4000000) (disch := assumption) only [mc_none, mc_some, mc_ite, mc_bnd, bnd_mc, mc_nm, mc_wck, mc_bndX, bndX_mc, ci_0, cn_0, cl_0, cm_0, ci_1, cn_1, ci_2, cn_2, ci_3, cn_3, ci_4, cn_4, ci_5, cn_5, cl_5, cm_5, ci_6, cn_6, cl_6, cm_6, ci_7, cn_7, ci_8, cn_8, ci_9, cn_9, ci_20, cn_20, cc_20, ci_21, cn_21, cc_21, ci_22, cn_22, ci_23, cn_23, ci_24, cn_24, ci_25, cn_25, ci_26, cn_26, ci_27, cn_27, p_X7_next_5]
  try rfl
set_option maxHeartbeats 8000000 in
theorem p_X4_skipSign {C : Mem} {x1 : Int32} {M : Mem} : f_X4_skipSign  x1 (mic C M) = mc C (f_X4_skipSign  x1 M) := by
  unfold f_X4_skipSign
  simp (maxSteps := 4000000) (disch := assumption) only [mc_none, mc_some, mc_ite, mc_bnd, bnd_mc, mc_nm, mc_wck, mc_bndX, bndX_mc, ci_0, cn_0, cl_0, cm_0, ci_1, cn_1, ci_2, cn_2, ci_3, cn_3, ci_4, cn_4, ci_5, cn_5, cl_5, cm_5, ci_6, cn_6, cl_6, cm_6, ci_7, cn_7, ci_8, cn_8, ci_9, cn_9, ci_20, cn_20, cc_20, ci_21, cn_21, cc_21, ci_22, cn_22, ci_23, cn_23, ci_24, cn_24, ci_25, cn_25, ci_26, cn_26, ci_27, cn_27, p_X7_next]
  try rfl
set_option maxHeartbeats 8000000 in
theorem p_X10_allows_20 {C : Mem} {M : Mem} : f_X10_allows_20 (mic C M) = mc C (f_X10_allows_20   M) := by
  unfold f_X10_allows_20
  simp (maxSteps := 4000000) (disch := assumption) only [mc_none, mc_some, mc_ite, mc_bnd, bnd_mc, mc_nm, mc_wck, mc_bndX, bndX_mc, ci_0, cn_0, cl_0, cm_0, ci_1, cn_1, ci_2, cn_2, ci_3, cn_3, ci_4, cn_4, ci_5, cn_5, cl_5, cm_5, ci_6, cn_6, cl_6, cm_6, ci_7, cn_7, ci_8, cn_8, ci_9, cn_9, ci_20, cn_20, cc_20, ci_21, cn_21, cc_21, ci_22, cn_22, ci_23, cn_23, ci_24, cn_24, ci_25, cn_25, ci_26, cn_26, ci_27, cn_27]
  try rfl
set_option maxHeartbeats 8000000 in
theorem p_X10_allows {C : Mem} {w0 : Nat} {x1 : Int32} {M : Mem} : f_X10_allows  w0 x1 (mic C M) = mc C (f_X10_allows  w0 x1 M) := by
  unfold f_X10_allows
  simp (maxSteps := 4000000) (disch := assumption) only [mc_none, mc_some, mc_ite, mc_bnd, bnd_mc, mc_nm, mc_wck, mc_bndX, bndX_mc, ci_0, cn_0, cl_0, cm_0, ci_1, cn_1, ci_2, cn_2, ci_3, cn_3, ci_4, cn_4, ci_5, cn_5, cl_5, cm_5, ci_6, cn_6, cl_6, cm_6, ci_7, cn_7, ci_8, cn_8, ci_9, cn_9, ci_20, cn_20, cc_20, ci_21, cn_21, cc_21, ci_22, cn_22, ci_23, cn_23, ci_24, cn_24, ci_25, cn_25, ci_26, cn_26, ci_27, cn_27, p_X10_allows_20]
  try rfl
set_option maxHeartbeats 8000000 in
theorem p_X4_takeNumber {C : Mem} {w1 : Nat} {x2 : Int32} {M : Mem} : f_X4_takeNumber  w1 x2 (mic C M) = mc C (f_X4_takeNumber  w1 x2 M) := by
  unfold f_X4_takeNumber
  simp (maxSteps := 4000000) (disch := assumption) only [mc_none, mc_some, mc_ite, mc_bnd, bnd_mc, mc_nm, mc_wck, mc_bndX, bndX_mc, ci_0, cn_0, cl_0, cm_0, ci_1, cn_1, ci_2, cn_2, ci_3, cn_3, ci_4, cn_4, ci_5, cn_5, cl_5, cm_5, ci_6, cn_6, cl_6, cm_6, ci_7, cn_7, ci_8, cn_8, ci_9, cn_9, ci_20, cn_20, cc_20, ci_21, cn_21, cc_21, ci_22, cn_22, ci_23, cn_23, ci_24, cn_24, ci_25, cn_25, ci_26, cn_26, ci_27, cn_27, p_X10_allows, p_X4_fail, p_X7_next]
  try rfl
set_option maxHeartbeats 8000000 in
theorem p_X4_readChannel_169 {C : Mem} {r55 : Nat → Nat → Int32 → Int32 → Mem → Option (Int32 × Mem)} (hr55 : ∀ (c1 : Nat) (j1 : Nat) (x2 : Int32) (x3 : Int32) (M : Mem), r55 c1 j1 x2 x3 (mic C M) = mc C (r55 c1 j1 x2 x3 M)) {c1 : Nat} {j1 : Nat} {x2 : Int32} {x3 : Int32} {xs0 : Int32} {ws1 : Nat} {cs2 : Nat} {js2 : Nat} {M : Mem} : f_X4_readChannel_169 r55 c1 j1 x2 x3 xs0 ws1 cs2 js2 (mic C M) = mc C (f_X4_readChannel_169 r55 c1 j1 x2 x3 xs0 ws1 cs2 js2 M) := by
  unfold f_X4_readChannel_169
  simp (maxSteps := 4000000) (disch := assumption) only [mc_none, mc_some, mc_ite, mc_bnd, bnd_mc, mc_nm, mc_wck, mc_bndX, bndX_mc, ci_0, cn_0, cl_0, cm_0, ci_1, cn_1, ci_2, cn_2, ci_3, cn_3, ci_4, cn_4, ci_5, cn_5, cl_5, cm_5, ci_6, cn_6, cl_6, cm_6, ci_7, cn_7, ci_8, cn_8, ci_9, cn_9, ci_20, cn_20, cc_20, ci_21, cn_21, cc_21, ci_22, cn_22, ci_23, cn_23, ci_24, cn_24, ci_25, cn_25, ci_26, cn_26, ci_27, cn_27, p_X4_setProperty, hr55]
  try rfl
set_option maxHeartbeats 8000000 in
theorem p_X4_readChannel_135 {C : Mem} {r55 : Nat → Nat → Int32 → Int32 → Mem → Option (Int32 × Mem)} (hr55 : ∀ (c1 : Nat) (j1 : Nat) (x2 : Int32) (x3 : Int32) (M : Mem), r55 c1 j1 x2 x3 (mic C M) = mc C (r55 c1 j1 x2 x3 M)) {c1 : Nat} {j1 : Nat} {x2 : Int32} {x3 : Int32} {w4 : Nat} {xs0 : Int32} {M : Mem} : f_X4_readChannel_135 r55 c1 j1 x2 x3 w4 xs0 (mic C M) = mc C (f_X4_readChannel_135 r55 c1 j1 x2 x3 w4 xs0 M) := by
  unfold f_X4_readChannel_135
  simp (maxSteps := 4000000) (disch := assumption) only [mc_none, mc_some, mc_ite, mc_bnd, bnd_mc, mc_nm, mc_wck, mc_bndX, bndX_mc, ci_0, cn_0, cl_0, cm_0, ci_1, cn_1, ci_2, cn_2, ci_3, cn_3, ci_4, cn_4, ci_5, cn_5, cl_5, cm_5, ci_6, cn_6, cl_6, cm_6, ci_7, cn_7, ci_8, cn_8, ci_9, cn_9, ci_20, cn_20, cc_20, ci_21, cn_21, cc_21, ci_22, cn_22, ci_23, cn_23, ci_24, cn_24, ci_25, cn_25, ci_26, cn_26, ci_27, cn_27, p_X4_readChannel_169, p_X4_takeNumber, hr55]
  try rfl
set_option maxHeartbeats 8000000 in
theorem p_X4_readChannel_134 {C : Mem} {r55 : Nat → Nat → Int32 → Int32 → Mem → Option (Int32 × Mem)} (hr55 : ∀ (c1 : Nat) (j1 : Nat) (x2 : Int32) (x3 : Int32) (M : Mem), r55 c1 j1 x2 x3 (mic C M) = mc C (r55 c1 j1 x2 x3 M)) {c1 : Nat} {j1 : Nat} {x2 : Int32} {x3 : Int32} {w4 : Nat} {M : Mem} : f_X4_readChannel_134 r55 c1 j1 x2 x3 w4 (mic C M) = mc C (f_X4_readChannel_134 r55 c1 j1 x2 x3 w4 M) := by
  unfold f_X4_readChannel_134
  simp (maxSteps := 4000000) (disch := assumption) only [mc_none, mc_some, mc_ite, mc_bnd, bnd_mc, mc_nm, mc_wck, mc_bndX, bndX_mc, ci_0, cn_0, cl_0, cm_0, ci_1, cn_1, ci_2, cn_2, ci_3, cn_3, ci_4, cn_4, ci_5, cn_5, cl_5, cm_5, ci_6, cn_6, cl_6, cm_6, ci_7, cn_7, ci_8, cn_8, ci_9, cn_9, ci_20, cn_20, cc_20, ci_21, cn_21, cc_21, ci_22, cn_22, ci_23, cn_23, ci_24, cn_24, ci_25, cn_25, ci_26, cn_26, ci_27, cn_27, p_X4_readChannel_135, hr55]
  try rfl
set_option maxHeartbeats 8000000 in
theorem p_X4_readChannel_55 {C : Mem} : ∀ (n : Nat) (c1 : Nat) (j1 : Nat) (x2 : Int32) (x3 : Int32) (M : Mem), f_X4_readChannel_55  n c1 j1 x2 x3 (mic C M) = mc C (f_X4_readChannel_55  n c1 j1 x2 x3 M) := by
  intro n
  induction n with
  | zero => intro c1 j1 x2 x3 M; rfl
  | succ n ih =>
    intro c1 j1 x2 x3 M
    unfold f_X4_readChannel_55
    simp (maxSteps := 4000000) (disch := assumption) only [mc_none, mc_some, mc_ite, mc_bnd, bnd_mc, mc_nm, mc_wck, mc_bndX, bndX_mc, ci_0, cn_0, cl_0, cm_0, ci_1, cn_1, ci_2, cn_2, ci_3, cn_3, ci_4, cn_4, ci_5, cn_5, cl_5, cm_5, ci_6, cn_6, cl_6, cm_6, ci_7, cn_7, ci_8, cn_8, ci_9, cn_9, ci_20, cn_20, cc_20, ci_21, cn_21, cc_21, ci_22, cn_22, ci_23, cn_23, ci_24, cn_24, ci_25, cn_25, ci_26, cn_26, ci_27, cn_27, p_X10_isProperty, p_X4_fail, p_X4_readChannel_134, p_X4_readChannel_135, p_X4_skipSign, p_X7_next, ih]
    try rfl
set_option maxHeartbeats 8000000 in
theorem p_X4_readChannel {C : Mem} {M : Mem} : f_X4_readChannel (mic C M) = mc C (f_X4_readChannel   M) := by
  unfold f_X4_readChannel
  simp (maxSteps := 4000000) (disch := assumption) only [mc_none, mc_some, mc_ite, mc_bnd, bnd_mc, mc_nm, mc_wck, mc_bndX, bndX_mc, ci_0, cn_0, cl_0, cm_0, ci_1, cn_1, ci_2, cn_2, ci_3, cn_3, ci_4, cn_4, ci_5, cn_5, cl_5, cm_5, ci_6, cn_6, cl_6, cm_6, ci_7, cn_7, ci_8, cn_8, ci_9, cn_9, ci_20, cn_20, cc_20, ci_21, cn_21, cc_21, ci_22, cn_22, ci_23, cn_23, ci_24, cn_24, ci_25, cn_25, ci_26, cn_26, ci_27, cn_27, p_X4_readChannel_55, p_X4_takeNumber, p_X7_next]
  try rfl
set_option maxHeartbeats 8000000 in
theorem p_X4_readEntries_30 {C : Mem} {r8 : Nat → Nat → Int32 → Int32 → Mem → Option (Int32 × Mem)} (hr8 : ∀ (c1 : Nat) (j1 : Nat) (x2 : Int32) (x3 : Int32) (M : Mem), r8 c1 j1 x2 x3 (mic C M) = mc C (r8 c1 j1 x2 x3 M)) {c1 : Nat} {j1 : Nat} {x2 : Int32} {x3 : Int32} {M : Mem} : f_X4_readEntries_30 r8 c1 j1 x2 x3 (mic C M) = mc C (f_X4_readEntries_30 r8 c1 j1 x2 x3 M) := by
  unfold f_X4_readEntries_30
  simp (maxSteps := 4000000) (disch := assumption) only [mc_none, mc_some, mc_ite, mc_bnd, bnd_mc, mc_nm, mc_wck, mc_bndX, bndX_mc, ci_0, cn_0, cl_0, cm_0, ci_1, cn_1, ci_2, cn_2, ci_3, cn_3, ci_4, cn_4, ci_5, cn_5, cl_5, cm_5, ci_6, cn_6, cl_6, cm_6, ci_7, cn_7, ci_8, cn_8, ci_9, cn_9, ci_20, cn_20, cc_20, ci_21, cn_21, cc_21, ci_22, cn_22, ci_23, cn_23, ci_24, cn_24, ci_25, cn_25, ci_26, cn_26, ci_27, cn_27, p_X4_takeNumber, hr8]
  try rfl
set_option maxHeartbeats 8000000 in
theorem p_X4_readEntries_8 {C : Mem} : ∀ (n : Nat) (c1 : Nat) (j1 : Nat) (x2 : Int32) (x3 : Int32) (M : Mem), f_X4_readEntries_8  n c1 j1 x2 x3 (mic C M) = mc C (f_X4_readEntries_8  n c1 j1 x2 x3 M) := by
  intro n
  induction n with
  | zero => intro c1 j1 x2 x3 M; rfl
  | succ n ih =>
    intro c1 j1 x2 x3 M
    unfold f_X4_readEntries_8
    simp (maxSteps := 4000000) (disch := assumption) only [mc_none, mc_some, mc_ite, mc_bnd, bnd_mc, mc_nm, mc_wck, mc_bndX, bndX_mc, ci_0, cn_0, cl_0, cm_0, ci_1, cn_1, ci_2, cn_2, ci_3, cn_3, ci_4, cn_4, ci_5, cn_5, cl_5, cm_5, ci_6, cn_6, cl_6, cm_6, ci_7, cn_7, ci_8, cn_8, ci_9, cn_9, ci_20, cn_20, cc_20, ci_21, cn_21, cc_21, ci_22, cn_22, ci_23, cn_23, ci_24, cn_24, ci_25, cn_25, ci_26, cn_26, ci_27, cn_27, p_X10_allows, p_X4_fail, p_X4_readEntries_30, ih]
    try rfl
set_option maxHeartbeats 8000000 in
theorem p_X4_readEntries {C : Mem} {c1 : Nat} {j1 : Nat} {M : Mem} : f_X4_readEntries  c1 j1 (mic C M) = mc C (f_X4_readEntries  c1 j1 M) := by
  unfold f_X4_readEntries
  simp (maxSteps := 4000000) (disch := assumption) only [mc_none, mc_some, mc_ite, mc_bnd, bnd_mc, mc_nm, mc_wck, mc_bndX, bndX_mc, ci_0, cn_0, cl_0, cm_0, ci_1, cn_1, ci_2, cn_2, ci_3, cn_3, ci_4, cn_4, ci_5, cn_5, cl_5, cm_5, ci_6, cn_6, cl_6, cm_6, ci_7, cn_7, ci_8, cn_8, ci_9, cn_9, ci_20, cn_20, cc_20, ci_21, cn_21, cc_21, ci_22, cn_22, ci_23, cn_23, ci_24, cn_24, ci_25, cn_25, ci_26, cn_26, ci_27, cn_27, p_X4_readEntries_8]
  try rfl
set_option maxHeartbeats 8000000 in
theorem p_X4_readGroup {C : Mem} {M : Mem} : f_X4_readGroup (mic C M) = mc C (f_X4_readGroup   M) := by
  unfold f_X4_readGroup
  simp (maxSteps := 4000000) (disch := assumption) only [mc_none, mc_some, mc_ite, mc_bnd, bnd_mc, mc_nm, mc_wck, mc_bndX, bndX_mc, ci_0, cn_0, cl_0, cm_0, ci_1, cn_1, ci_2, cn_2, ci_3, cn_3, ci_4, cn_4, ci_5, cn_5, cl_5, cm_5, ci_6, cn_6, cl_6, cm_6, ci_7, cn_7, ci_8, cn_8, ci_9, cn_9, ci_20, cn_20, cc_20, ci_21, cn_21, cc_21, ci_22, cn_22, ci_23, cn_23, ci_24, cn_24, ci_25, cn_25, ci_26, cn_26, ci_27, cn_27, p_X4_takeNumber]
  try rfl
set_option maxHeartbeats 8000000 in
theorem p_X4_skipWord {C : Mem} {w1 : Nat} {M : Mem} : f_X4_skipWord  w1 (mic C M) = mc C (f_X4_skipWord  w1 M) := by
  unfold f_X4_skipWord
  simp (maxSteps := 4000000) (disch := assumption) only [mc_none, mc_some, mc_ite, mc_bnd, bnd_mc, mc_nm, mc_wck, mc_bndX, bndX_mc, ci_0, cn_0, cl_0, cm_0, ci_1, cn_1, ci_2, cn_2, ci_3, cn_3, ci_4, cn_4, ci_5, cn_5, cl_5, cm_5, ci_6, cn_6, cl_6, cm_6, ci_7, cn_7, ci_8, cn_8, ci_9, cn_9, ci_20, cn_20, cc_20, ci_21, cn_21, cc_21, ci_22, cn_22, ci_23, cn_23, ci_24, cn_24, ci_25, cn_25, ci_26, cn_26, ci_27, cn_27, p_X7_next]
  try rfl
set_option maxHeartbeats 8000000 in
theorem p_X4_takeWord {C : Mem} {w1 : Nat} {M : Mem} : f_X4_takeWord  w1 (mic C M) = mc C (f_X4_takeWord  w1 M) := by
  unfold f_X4_takeWord
  simp (maxSteps := 4000000) (disch := assumption) only [mc_none, mc_some, mc_ite, mc_bnd, bnd_mc, mc_nm, mc_wck, mc_bndX, bndX_mc, ci_0, cn_0, cl_0, cm_0, ci_1, cn_1, ci_2, cn_2, ci_3, cn_3, ci_4, cn_4, ci_5, cn_5, cl_5, cm_5, ci_6, cn_6, cl_6, cm_6, ci_7, cn_7, ci_8, cn_8, ci_9, cn_9, ci_20, cn_20, cc_20, ci_21, cn_21, cc_21, ci_22, cn_22, ci_23, cn_23, ci_24, cn_24, ci_25, cn_25, ci_26, cn_26, ci_27, cn_27, p_X4_fail, p_X7_next]
  try rfl
set_option maxHeartbeats 8000000 in
theorem p_X4_readOver {C : Mem} {M : Mem} : f_X4_readOver (mic C M) = mc C (f_X4_readOver   M) := by
  unfold f_X4_readOver
  simp (maxSteps := 4000000) (disch := assumption) only [mc_none, mc_some, mc_ite, mc_bnd, bnd_mc, mc_nm, mc_wck, mc_bndX, bndX_mc, ci_0, cn_0, cl_0, cm_0, ci_1, cn_1, ci_2, cn_2, ci_3, cn_3, ci_4, cn_4, ci_5, cn_5, cl_5, cm_5, ci_6, cn_6, cl_6, cm_6, ci_7, cn_7, ci_8, cn_8, ci_9, cn_9, ci_20, cn_20, cc_20, ci_21, cn_21, cc_21, ci_22, cn_22, ci_23, cn_23, ci_24, cn_24, ci_25, cn_25, ci_26, cn_26, ci_27, cn_27, p_X4_skipWord, p_X4_takeNumber, p_X4_takeWord]
  try rfl
set_option maxHeartbeats 8000000 in
theorem p_X4_readPace {C : Mem} {M : Mem} : f_X4_readPace (mic C M) = mc C (f_X4_readPace   M) := by
  unfold f_X4_readPace
  simp (maxSteps := 4000000) (disch := assumption) only [mc_none, mc_some, mc_ite, mc_bnd, bnd_mc, mc_nm, mc_wck, mc_bndX, bndX_mc, ci_0, cn_0, cl_0, cm_0, ci_1, cn_1, ci_2, cn_2, ci_3, cn_3, ci_4, cn_4, ci_5, cn_5, cl_5, cm_5, ci_6, cn_6, cl_6, cm_6, ci_7, cn_7, ci_8, cn_8, ci_9, cn_9, ci_20, cn_20, cc_20, ci_21, cn_21, cc_21, ci_22, cn_22, ci_23, cn_23, ci_24, cn_24, ci_25, cn_25, ci_26, cn_26, ci_27, cn_27, p_X4_takeNumber]
  try rfl
set_option maxHeartbeats 8000000 in
theorem p_X4_readQueue {C : Mem} {M : Mem} : f_X4_readQueue (mic C M) = mc C (f_X4_readQueue   M) := by
  unfold f_X4_readQueue
  simp (maxSteps := 4000000) (disch := assumption) only [mc_none, mc_some, mc_ite, mc_bnd, bnd_mc, mc_nm, mc_wck, mc_bndX, bndX_mc, ci_0, cn_0, cl_0, cm_0, ci_1, cn_1, ci_2, cn_2, ci_3, cn_3, ci_4, cn_4, ci_5, cn_5, cl_5, cm_5, ci_6, cn_6, cl_6, cm_6, ci_7, cn_7, ci_8, cn_8, ci_9, cn_9, ci_20, cn_20, cc_20, ci_21, cn_21, cc_21, ci_22, cn_22, ci_23, cn_23, ci_24, cn_24, ci_25, cn_25, ci_26, cn_26, ci_27, cn_27, p_X4_skipWord, p_X4_takeNumber]
  try rfl
set_option maxHeartbeats 8000000 in
theorem p_X4_readTrigger_89 {C : Mem} {c1 : Nat} {j1 : Nat} {M : Mem} : f_X4_readTrigger_89  c1 j1 (mic C M) = mc C (f_X4_readTrigger_89  c1 j1 M) := by
  unfold f_X4_readTrigger_89
  simp (maxSteps := 4000000) (disch := assumption) only [mc_none, mc_some, mc_ite, mc_bnd, bnd_mc, mc_nm, mc_wck, mc_bndX, bndX_mc, ci_0, cn_0, cl_0, cm_0, ci_1, cn_1, ci_2, cn_2, ci_3, cn_3, ci_4, cn_4, ci_5, cn_5, cl_5, cm_5, ci_6, cn_6, cl_6, cm_6, ci_7, cn_7, ci_8, cn_8, ci_9, cn_9, ci_20, cn_20, cc_20, ci_21, cn_21, cc_21, ci_22, cn_22, ci_23, cn_23, ci_24, cn_24, ci_25, cn_25, ci_26, cn_26, ci_27, cn_27, p_X4_skipWord, p_X4_takeNumber]
  try rfl
set_option maxHeartbeats 8000000 in
theorem p_X4_readTrigger {C : Mem} {M : Mem} : f_X4_readTrigger (mic C M) = mc C (f_X4_readTrigger   M) := by
  unfold f_X4_readTrigger
  simp (maxSteps := 4000000) (disch := assumption) only [mc_none, mc_some, mc_ite, mc_bnd, bnd_mc, mc_nm, mc_wck, mc_bndX, bndX_mc, ci_0, cn_0, cl_0, cm_0, ci_1, cn_1, ci_2, cn_2, ci_3, cn_3, ci_4, cn_4, ci_5, cn_5, cl_5, cm_5, ci_6, cn_6, cl_6, cm_6, ci_7, cn_7, ci_8, cn_8, ci_9, cn_9, ci_20, cn_20, cc_20, ci_21, cn_21, cc_21, ci_22, cn_22, ci_23, cn_23, ci_24, cn_24, ci_25, cn_25, ci_26, cn_26, ci_27, cn_27, p_X4_readTrigger_89, p_X4_skipWord, p_X4_takeNumber, p_X4_takeWord, p_X7_next]
  try rfl
set_option maxHeartbeats 8000000 in
theorem p_X4_readWindowChannels_25 {C : Mem} {r2 : Nat → Nat → Int32 → Mem → Option (Int32 × Mem)} (hr2 : ∀ (c1 : Nat) (j1 : Nat) (x2 : Int32) (M : Mem), r2 c1 j1 x2 (mic C M) = mc C (r2 c1 j1 x2 M)) {c1 : Nat} {j1 : Nat} {x2 : Int32} {M : Mem} : f_X4_readWindowChannels_25 r2 c1 j1 x2 (mic C M) = mc C (f_X4_readWindowChannels_25 r2 c1 j1 x2 M) := by
  unfold f_X4_readWindowChannels_25
  simp (maxSteps := 4000000) (disch := assumption) only [mc_none, mc_some, mc_ite, mc_bnd, bnd_mc, mc_nm, mc_wck, mc_bndX, bndX_mc, ci_0, cn_0, cl_0, cm_0, ci_1, cn_1, ci_2, cn_2, ci_3, cn_3, ci_4, cn_4, ci_5, cn_5, cl_5, cm_5, ci_6, cn_6, cl_6, cm_6, ci_7, cn_7, ci_8, cn_8, ci_9, cn_9, ci_20, cn_20, cc_20, ci_21, cn_21, cc_21, ci_22, cn_22, ci_23, cn_23, ci_24, cn_24, ci_25, cn_25, ci_26, cn_26, ci_27, cn_27, p_X4_takeNumber, hr2]
  try rfl
set_option maxHeartbeats 8000000 in
theorem p_X4_readWindowChannels_2 {C : Mem} : ∀ (n : Nat) (c1 : Nat) (j1 : Nat) (x2 : Int32) (M : Mem), f_X4_readWindowChannels_2  n c1 j1 x2 (mic C M) = mc C (f_X4_readWindowChannels_2  n c1 j1 x2 M) := by
  intro n
  induction n with
  | zero => intro c1 j1 x2 M; rfl
  | succ n ih =>
    intro c1 j1 x2 M
    unfold f_X4_readWindowChannels_2
    simp (maxSteps := 4000000) (disch := assumption) only [mc_none, mc_some, mc_ite, mc_bnd, bnd_mc, mc_nm, mc_wck, mc_bndX, bndX_mc, ci_0, cn_0, cl_0, cm_0, ci_1, cn_1, ci_2, cn_2, ci_3, cn_3, ci_4, cn_4, ci_5, cn_5, cl_5, cm_5, ci_6, cn_6, cl_6, cm_6, ci_7, cn_7, ci_8, cn_8, ci_9, cn_9, ci_20, cn_20, cc_20, ci_21, cn_21, cc_21, ci_22, cn_22, ci_23, cn_23, ci_24, cn_24, ci_25, cn_25, ci_26, cn_26, ci_27, cn_27, p_X4_readWindowChannels_25, ih]
    try rfl
set_option maxHeartbeats 8000000 in
theorem p_X4_readWindowChannels {C : Mem} {c1 : Nat} {j1 : Nat} {M : Mem} : f_X4_readWindowChannels  c1 j1 (mic C M) = mc C (f_X4_readWindowChannels  c1 j1 M) := by
  unfold f_X4_readWindowChannels
  simp (maxSteps := 4000000) (disch := assumption) only [mc_none, mc_some, mc_ite, mc_bnd, bnd_mc, mc_nm, mc_wck, mc_bndX, bndX_mc, ci_0, cn_0, cl_0, cm_0, ci_1, cn_1, ci_2, cn_2, ci_3, cn_3, ci_4, cn_4, ci_5, cn_5, cl_5, cm_5, ci_6, cn_6, cl_6, cm_6, ci_7, cn_7, ci_8, cn_8, ci_9, cn_9, ci_20, cn_20, cc_20, ci_21, cn_21, cc_21, ci_22, cn_22, ci_23, cn_23, ci_24, cn_24, ci_25, cn_25, ci_26, cn_26, ci_27, cn_27, p_X4_readWindowChannels_2]
  try rfl
set_option maxHeartbeats 8000000 in
theorem p_X4_takeHighBound {C : Mem} {x1 : Int32} {M : Mem} : f_X4_takeHighBound  x1 (mic C M) = mc C (f_X4_takeHighBound  x1 M) := by
  unfold f_X4_takeHighBound
  simp (maxSteps := 4000000) (disch := assumption) only [mc_none, mc_some, mc_ite, mc_bnd, bnd_mc, mc_nm, mc_wck, mc_bndX, bndX_mc, ci_0, cn_0, cl_0, cm_0, ci_1, cn_1, ci_2, cn_2, ci_3, cn_3, ci_4, cn_4, ci_5, cn_5, cl_5, cm_5, ci_6, cn_6, cl_6, cm_6, ci_7, cn_7, ci_8, cn_8, ci_9, cn_9, ci_20, cn_20, cc_20, ci_21, cn_21, cc_21, ci_22, cn_22, ci_23, cn_23, ci_24, cn_24, ci_25, cn_25, ci_26, cn_26, ci_27, cn_27, p_X4_fail, p_X4_takeNumber]
  try rfl
set_option maxHeartbeats 8000000 in
theorem p_X4_readWindow_171 {C : Mem} {M : Mem} : f_X4_readWindow_171 (mic C M) = mc C (f_X4_readWindow_171   M) := by
  unfold f_X4_readWindow_171
  simp (maxSteps := 4000000) (disch := assumption) only [mc_none, mc_some, mc_ite, mc_bnd, bnd_mc, mc_nm, mc_wck, mc_bndX, bndX_mc, ci_0, cn_0, cl_0, cm_0, ci_1, cn_1, ci_2, cn_2, ci_3, cn_3, ci_4, cn_4, ci_5, cn_5, cl_5, cm_5, ci_6, cn_6, cl_6, cm_6, ci_7, cn_7, ci_8, cn_8, ci_9, cn_9, ci_20, cn_20, cc_20, ci_21, cn_21, cc_21, ci_22, cn_22, ci_23, cn_23, ci_24, cn_24, ci_25, cn_25, ci_26, cn_26, ci_27, cn_27]
  try rfl
set_option maxHeartbeats 8000000 in
theorem p_X4_readWindow {C : Mem} {M : Mem} : f_X4_readWindow (mic C M) = mc C (f_X4_readWindow   M) := by
  unfold f_X4_readWindow
  simp (maxSteps := 4000000) (disch := assumption) only [mc_none, mc_some, mc_ite, mc_bnd, bnd_mc, mc_nm, mc_wck, mc_bndX, bndX_mc, ci_0, cn_0, cl_0, cm_0, ci_1, cn_1, ci_2, cn_2, ci_3, cn_3, ci_4, cn_4, ci_5, cn_5, cl_5, cm_5, ci_6, cn_6, cl_6, cm_6, ci_7, cn_7, ci_8, cn_8, ci_9, cn_9, ci_20, cn_20, cc_20, ci_21, cn_21, cc_21, ci_22, cn_22, ci_23, cn_23, ci_24, cn_24, ci_25, cn_25, ci_26, cn_26, ci_27, cn_27, p_X4_readWindowChannels, p_X4_readWindow_171, p_X4_takeHighBound, p_X4_takeNumber, p_X4_takeWord, p_X7_next]
  try rfl
set_option maxHeartbeats 8000000 in
theorem p_X4_takeFirstWord {C : Mem} {M : Mem} : f_X4_takeFirstWord (mic C M) = mc C (f_X4_takeFirstWord   M) := by
  unfold f_X4_takeFirstWord
  simp (maxSteps := 4000000) (disch := assumption) only [mc_none, mc_some, mc_ite, mc_bnd, bnd_mc, mc_nm, mc_wck, mc_bndX, bndX_mc, ci_0, cn_0, cl_0, cm_0, ci_1, cn_1, ci_2, cn_2, ci_3, cn_3, ci_4, cn_4, ci_5, cn_5, cl_5, cm_5, ci_6, cn_6, cl_6, cm_6, ci_7, cn_7, ci_8, cn_8, ci_9, cn_9, ci_20, cn_20, cc_20, ci_21, cn_21, cc_21, ci_22, cn_22, ci_23, cn_23, ci_24, cn_24, ci_25, cn_25, ci_26, cn_26, ci_27, cn_27, p_X4_fail, p_X7_next]
  try rfl
set_option maxHeartbeats 8000000 in
theorem p_X4_readStatement_112 {C : Mem} {M : Mem} : f_X4_readStatement_112 (mic C M) = mc C (f_X4_readStatement_112   M) := by
  unfold f_X4_readStatement_112
  simp (maxSteps := 4000000) (disch := assumption) only [mc_none, mc_some, mc_ite, mc_bnd, bnd_mc, mc_nm, mc_wck, mc_bndX, bndX_mc, ci_0, cn_0, cl_0, cm_0, ci_1, cn_1, ci_2, cn_2, ci_3, cn_3, ci_4, cn_4, ci_5, cn_5, cl_5, cm_5, ci_6, cn_6, cl_6, cm_6, ci_7, cn_7, ci_8, cn_8, ci_9, cn_9, ci_20, cn_20, cc_20, ci_21, cn_21, cc_21, ci_22, cn_22, ci_23, cn_23, ci_24, cn_24, ci_25, cn_25, ci_26, cn_26, ci_27, cn_27]
  try rfl
set_option maxHeartbeats 8000000 in
theorem p_X4_readStatement_139 {C : Mem} {M : Mem} : f_X4_readStatement_139 (mic C M) = mc C (f_X4_readStatement_139   M) := by
  unfold f_X4_readStatement_139
  simp (maxSteps := 4000000) (disch := assumption) only [mc_none, mc_some, mc_ite, mc_bnd, bnd_mc, mc_nm, mc_wck, mc_bndX, bndX_mc, ci_0, cn_0, cl_0, cm_0, ci_1, cn_1, ci_2, cn_2, ci_3, cn_3, ci_4, cn_4, ci_5, cn_5, cl_5, cm_5, ci_6, cn_6, cl_6, cm_6, ci_7, cn_7, ci_8, cn_8, ci_9, cn_9, ci_20, cn_20, cc_20, ci_21, cn_21, cc_21, ci_22, cn_22, ci_23, cn_23, ci_24, cn_24, ci_25, cn_25, ci_26, cn_26, ci_27, cn_27]
  try rfl
set_option maxHeartbeats 8000000 in
theorem p_X4_readStatement_159 {C : Mem} {M : Mem} : f_X4_readStatement_159 (mic C M) = mc C (f_X4_readStatement_159   M) := by
  unfold f_X4_readStatement_159
  simp (maxSteps := 4000000) (disch := assumption) only [mc_none, mc_some, mc_ite, mc_bnd, bnd_mc, mc_nm, mc_wck, mc_bndX, bndX_mc, ci_0, cn_0, cl_0, cm_0, ci_1, cn_1, ci_2, cn_2, ci_3, cn_3, ci_4, cn_4, ci_5, cn_5, cl_5, cm_5, ci_6, cn_6, cl_6, cm_6, ci_7, cn_7, ci_8, cn_8, ci_9, cn_9, ci_20, cn_20, cc_20, ci_21, cn_21, cc_21, ci_22, cn_22, ci_23, cn_23, ci_24, cn_24, ci_25, cn_25, ci_26, cn_26, ci_27, cn_27]
  try rfl
set_option maxHeartbeats 8000000 in
theorem p_X4_readStatement_205 {C : Mem} {M : Mem} : f_X4_readStatement_205 (mic C M) = mc C (f_X4_readStatement_205   M) := by
  unfold f_X4_readStatement_205
  simp (maxSteps := 4000000) (disch := assumption) only [mc_none, mc_some, mc_ite, mc_bnd, bnd_mc, mc_nm, mc_wck, mc_bndX, bndX_mc, ci_0, cn_0, cl_0, cm_0, ci_1, cn_1, ci_2, cn_2, ci_3, cn_3, ci_4, cn_4, ci_5, cn_5, cl_5, cm_5, ci_6, cn_6, cl_6, cm_6, ci_7, cn_7, ci_8, cn_8, ci_9, cn_9, ci_20, cn_20, cc_20, ci_21, cn_21, cc_21, ci_22, cn_22, ci_23, cn_23, ci_24, cn_24, ci_25, cn_25, ci_26, cn_26, ci_27, cn_27]
  try rfl
set_option maxHeartbeats 8000000 in
theorem p_X4_readStatement_225 {C : Mem} {M : Mem} : f_X4_readStatement_225 (mic C M) = mc C (f_X4_readStatement_225   M) := by
  unfold f_X4_readStatement_225
  simp (maxSteps := 4000000) (disch := assumption) only [mc_none, mc_some, mc_ite, mc_bnd, bnd_mc, mc_nm, mc_wck, mc_bndX, bndX_mc, ci_0, cn_0, cl_0, cm_0, ci_1, cn_1, ci_2, cn_2, ci_3, cn_3, ci_4, cn_4, ci_5, cn_5, cl_5, cm_5, ci_6, cn_6, cl_6, cm_6, ci_7, cn_7, ci_8, cn_8, ci_9, cn_9, ci_20, cn_20, cc_20, ci_21, cn_21, cc_21, ci_22, cn_22, ci_23, cn_23, ci_24, cn_24, ci_25, cn_25, ci_26, cn_26, ci_27, cn_27]
  try rfl
set_option maxHeartbeats 8000000 in
theorem p_X4_readStatement_245 {C : Mem} {M : Mem} : f_X4_readStatement_245 (mic C M) = mc C (f_X4_readStatement_245   M) := by
  unfold f_X4_readStatement_245
  simp (maxSteps := 4000000) (disch := assumption) only [mc_none, mc_some, mc_ite, mc_bnd, bnd_mc, mc_nm, mc_wck, mc_bndX, bndX_mc, ci_0, cn_0, cl_0, cm_0, ci_1, cn_1, ci_2, cn_2, ci_3, cn_3, ci_4, cn_4, ci_5, cn_5, cl_5, cm_5, ci_6, cn_6, cl_6, cm_6, ci_7, cn_7, ci_8, cn_8, ci_9, cn_9, ci_20, cn_20, cc_20, ci_21, cn_21, cc_21, ci_22, cn_22, ci_23, cn_23, ci_24, cn_24, ci_25, cn_25, ci_26, cn_26, ci_27, cn_27]
  try rfl
set_option maxHeartbeats 8000000 in
theorem p_X4_readStatement {C : Mem} {M : Mem} : f_X4_readStatement (mic C M) = mc C (f_X4_readStatement M) := by
  unfold f_X4_readStatement
  rw [ci_6]
  refine wck_mc (fun v => ?_)
  repeat refine ite_mc ?_ ?_
  all_goals
    simp (maxSteps := 4000000) only [mc_none, mc_some, mc_ite, mc_bnd, bnd_mc, mc_nm, mc_wck, mc_bndX, bndX_mc, ci_0, cn_0, cl_0, cm_0, ci_1, cn_1, ci_2, cn_2, ci_3, cn_3, ci_4, cn_4, ci_5, cn_5, cl_5, cm_5, ci_6, cn_6, cl_6, cm_6, ci_7, cn_7, ci_8, cn_8, ci_9, cn_9, ci_20, cn_20, cc_20, ci_21, cn_21, cc_21, ci_22, cn_22, ci_23, cn_23, ci_24, cn_24, ci_25, cn_25, ci_26, cn_26, ci_27, cn_27, p_X4_fail, p_X4_readChannel, p_X4_readEntries, p_X4_readGroup, p_X4_readOver, p_X4_readPace, p_X4_readQueue, p_X4_readStatement_112, p_X4_readStatement_139, p_X4_readStatement_159, p_X4_readStatement_205, p_X4_readStatement_225, p_X4_readStatement_245, p_X4_readTrigger, p_X4_readWindow, p_X4_takeFirstWord]
    try rfl
set_option maxHeartbeats 8000000 in
theorem p_X4_takeSign_16 {C : Mem} {M : Mem} : f_X4_takeSign_16 (mic C M) = mc C (f_X4_takeSign_16   M) := by
  unfold f_X4_takeSign_16
  simp (maxSteps := 4000000) (disch := assumption) only [mc_none, mc_some, mc_ite, mc_bnd, bnd_mc, mc_nm, mc_wck, mc_bndX, bndX_mc, ci_0, cn_0, cl_0, cm_0, ci_1, cn_1, ci_2, cn_2, ci_3, cn_3, ci_4, cn_4, ci_5, cn_5, cl_5, cm_5, ci_6, cn_6, cl_6, cm_6, ci_7, cn_7, ci_8, cn_8, ci_9, cn_9, ci_20, cn_20, cc_20, ci_21, cn_21, cc_21, ci_22, cn_22, ci_23, cn_23, ci_24, cn_24, ci_25, cn_25, ci_26, cn_26, ci_27, cn_27]
  try rfl
set_option maxHeartbeats 8000000 in
theorem p_X4_takeSign {C : Mem} {x1 : Int32} {M : Mem} : f_X4_takeSign  x1 (mic C M) = mc C (f_X4_takeSign  x1 M) := by
  unfold f_X4_takeSign
  simp (maxSteps := 4000000) (disch := assumption) only [mc_none, mc_some, mc_ite, mc_bnd, bnd_mc, mc_nm, mc_wck, mc_bndX, bndX_mc, ci_0, cn_0, cl_0, cm_0, ci_1, cn_1, ci_2, cn_2, ci_3, cn_3, ci_4, cn_4, ci_5, cn_5, cl_5, cm_5, ci_6, cn_6, cl_6, cm_6, ci_7, cn_7, ci_8, cn_8, ci_9, cn_9, ci_20, cn_20, cc_20, ci_21, cn_21, cc_21, ci_22, cn_22, ci_23, cn_23, ci_24, cn_24, ci_25, cn_25, ci_26, cn_26, ci_27, cn_27, p_X4_fail, p_X4_skipSign, p_X4_takeSign_16]
  try rfl
set_option maxHeartbeats 8000000 in
theorem p_X7_begin {C : Mem} {M : Mem} : f_X7_begin (mic C M) = mc C (f_X7_begin   M) := by
  unfold f_X7_begin
  simp (maxSteps := 4000000) (disch := assumption) only [mc_none, mc_some, mc_ite, mc_bnd, bnd_mc, mc_nm, mc_wck, mc_bndX, bndX_mc, ci_0, cn_0, cl_0, cm_0, ci_1, cn_1, ci_2, cn_2, ci_3, cn_3, ci_4, cn_4, ci_5, cn_5, cl_5, cm_5, ci_6, cn_6, cl_6, cm_6, ci_7, cn_7, ci_8, cn_8, ci_9, cn_9, ci_20, cn_20, cc_20, ci_21, cn_21, cc_21, ci_22, cn_22, ci_23, cn_23, ci_24, cn_24, ci_25, cn_25, ci_26, cn_26, ci_27, cn_27, p_X7_next]
  try rfl
set_option maxHeartbeats 8000000 in
theorem p_X4_parse_52 {C : Mem} : ∀ (n : Nat) (x1 : Int32) (x2 : Int32) (M : Mem), f_X4_parse_52  n x1 x2 (mic C M) = mc C (f_X4_parse_52  n x1 x2 M) := by
  intro n
  induction n with
  | zero => intro x1 x2 M; rfl
  | succ n ih =>
    intro x1 x2 M
    unfold f_X4_parse_52
    simp (maxSteps := 4000000) (disch := assumption) only [mc_none, mc_some, mc_ite, mc_bnd, bnd_mc, mc_nm, mc_wck, mc_bndX, bndX_mc, ci_0, cn_0, cl_0, cm_0, ci_1, cn_1, ci_2, cn_2, ci_3, cn_3, ci_4, cn_4, ci_5, cn_5, cl_5, cm_5, ci_6, cn_6, cl_6, cm_6, ci_7, cn_7, ci_8, cn_8, ci_9, cn_9, ci_20, cn_20, cc_20, ci_21, cn_21, cc_21, ci_22, cn_22, ci_23, cn_23, ci_24, cn_24, ci_25, cn_25, ci_26, cn_26, ci_27, cn_27, p_X4_readStatement, p_X4_takeSign, ih]
    try rfl
set_option maxHeartbeats 8000000 in
theorem p_X4_parse {C : Mem} {M : Mem} : f_X4_parse (mic C M) = mc C (f_X4_parse   M) := by
  unfold f_X4_parse
  simp (maxSteps := 4000000) (disch := assumption) only [mc_none, mc_some, mc_ite, mc_bnd, bnd_mc, mc_nm, mc_wck, mc_bndX, bndX_mc, ci_0, cn_0, cl_0, cm_0, ci_1, cn_1, ci_2, cn_2, ci_3, cn_3, ci_4, cn_4, ci_5, cn_5, cl_5, cm_5, ci_6, cn_6, cl_6, cm_6, ci_7, cn_7, ci_8, cn_8, ci_9, cn_9, ci_20, cn_20, cc_20, ci_21, cn_21, cc_21, ci_22, cn_22, ci_23, cn_23, ci_24, cn_24, ci_25, cn_25, ci_26, cn_26, ci_27, cn_27, p_X3_copyFrom, p_X4_parse_52, p_X7_begin]
  try rfl
set_option maxHeartbeats 8000000 in
theorem p_X7_addBytes_3 {C : Mem} : ∀ (n : Nat) (x1 : Int32) (x2 : Int32) (M : Mem), f_X7_addBytes_3  n x1 x2 (mic C M) = mc C (f_X7_addBytes_3  n x1 x2 M) := by
  intro n
  induction n with
  | zero => intro x1 x2 M; rfl
  | succ n ih =>
    intro x1 x2 M
    unfold f_X7_addBytes_3
    simp (maxSteps := 4000000) (disch := assumption) only [mc_none, mc_some, mc_ite, mc_bnd, bnd_mc, mc_nm, mc_wck, mc_bndX, bndX_mc, ci_0, cn_0, cl_0, cm_0, ci_1, cn_1, ci_2, cn_2, ci_3, cn_3, ci_4, cn_4, ci_5, cn_5, cl_5, cm_5, ci_6, cn_6, cl_6, cm_6, ci_7, cn_7, ci_8, cn_8, ci_9, cn_9, ci_20, cn_20, cc_20, ci_21, cn_21, cc_21, ci_22, cn_22, ci_23, cn_23, ci_24, cn_24, ci_25, cn_25, ci_26, cn_26, ci_27, cn_27, ih]
    try rfl
set_option maxHeartbeats 8000000 in
theorem p_X7_addBytes {C : Mem} {x1 : Int32} {M : Mem} : f_X7_addBytes  x1 (mic C M) = mc C (f_X7_addBytes  x1 M) := by
  unfold f_X7_addBytes
  simp (maxSteps := 4000000) (disch := assumption) only [mc_none, mc_some, mc_ite, mc_bnd, bnd_mc, mc_nm, mc_wck, mc_bndX, bndX_mc, ci_0, cn_0, cl_0, cm_0, ci_1, cn_1, ci_2, cn_2, ci_3, cn_3, ci_4, cn_4, ci_5, cn_5, cl_5, cm_5, ci_6, cn_6, cl_6, cm_6, ci_7, cn_7, ci_8, cn_8, ci_9, cn_9, ci_20, cn_20, cc_20, ci_21, cn_21, cc_21, ci_22, cn_22, ci_23, cn_23, ci_24, cn_24, ci_25, cn_25, ci_26, cn_26, ci_27, cn_27, p_X7_addBytes_3]
  try rfl
set_option maxHeartbeats 8000000 in
theorem p_X9_calmDown {C : Mem} {c0 : Nat} {j0 : Nat} {M : Mem} : f_X9_calmDown  c0 j0 (mic C M) = mc C (f_X9_calmDown  c0 j0 M) := by
  unfold f_X9_calmDown
  simp (maxSteps := 4000000) (disch := assumption) only [mc_none, mc_some, mc_ite, mc_bnd, bnd_mc, mc_nm, mc_wck, mc_bndX, bndX_mc, ci_0, cn_0, cl_0, cm_0, ci_1, cn_1, ci_2, cn_2, ci_3, cn_3, ci_4, cn_4, ci_5, cn_5, cl_5, cm_5, ci_6, cn_6, cl_6, cm_6, ci_7, cn_7, ci_8, cn_8, ci_9, cn_9, ci_20, cn_20, cc_20, ci_21, cn_21, cc_21, ci_22, cn_22, ci_23, cn_23, ci_24, cn_24, ci_25, cn_25, ci_26, cn_26, ci_27, cn_27]
  try rfl
set_option maxHeartbeats 8000000 in
theorem p_X11_append {C : Mem} {x1 : Int32} {x2 : Int32} {x3 : Int32} {x4 : Int32} {x5 : Int32} {M : Mem} : f_X11_append  x1 x2 x3 x4 x5 (mic C M) = mc C (f_X11_append  x1 x2 x3 x4 x5 M) := by
  unfold f_X11_append
  simp (maxSteps := 4000000) (disch := assumption) only [mc_none, mc_some, mc_ite, mc_bnd, bnd_mc, mc_nm, mc_wck, mc_bndX, bndX_mc, ci_0, cn_0, cl_0, cm_0, ci_1, cn_1, ci_2, cn_2, ci_3, cn_3, ci_4, cn_4, ci_5, cn_5, cl_5, cm_5, ci_6, cn_6, cl_6, cm_6, ci_7, cn_7, ci_8, cn_8, ci_9, cn_9, ci_20, cn_20, cc_20, ci_21, cn_21, cc_21, ci_22, cn_22, ci_23, cn_23, ci_24, cn_24, ci_25, cn_25, ci_26, cn_26, ci_27, cn_27, p_X7_addBytes]
  try rfl
set_option maxHeartbeats 8000000 in
theorem p_X11_truncate {C : Mem} {x1 : Int32} {M : Mem} : f_X11_truncate  x1 (mic C M) = mc C (f_X11_truncate  x1 M) := by
  unfold f_X11_truncate
  simp (maxSteps := 4000000) (disch := assumption) only [mc_none, mc_some, mc_ite, mc_bnd, bnd_mc, mc_nm, mc_wck, mc_bndX, bndX_mc, ci_0, cn_0, cl_0, cm_0, ci_1, cn_1, ci_2, cn_2, ci_3, cn_3, ci_4, cn_4, ci_5, cn_5, cl_5, cm_5, ci_6, cn_6, cl_6, cm_6, ci_7, cn_7, ci_8, cn_8, ci_9, cn_9, ci_20, cn_20, cc_20, ci_21, cn_21, cc_21, ci_22, cn_22, ci_23, cn_23, ci_24, cn_24, ci_25, cn_25, ci_26, cn_26, ci_27, cn_27]
  try rfl
set_option maxHeartbeats 8000000 in
theorem p_X11_setup_40 {C : Mem} : ∀ (n : Nat) (x1 : Int32) (x2 : Int32) (M : Mem), f_X11_setup_40  n x1 x2 (mic C M) = mc C (f_X11_setup_40  n x1 x2 M) := by
  intro n
  induction n with
  | zero => intro x1 x2 M; rfl
  | succ n ih =>
    intro x1 x2 M
    unfold f_X11_setup_40
    simp (maxSteps := 4000000) (disch := assumption) only [mc_none, mc_some, mc_ite, mc_bnd, bnd_mc, mc_nm, mc_wck, mc_bndX, bndX_mc, ci_0, cn_0, cl_0, cm_0, ci_1, cn_1, ci_2, cn_2, ci_3, cn_3, ci_4, cn_4, ci_5, cn_5, cl_5, cm_5, ci_6, cn_6, cl_6, cm_6, ci_7, cn_7, ci_8, cn_8, ci_9, cn_9, ci_20, cn_20, cc_20, ci_21, cn_21, cc_21, ci_22, cn_22, ci_23, cn_23, ci_24, cn_24, ci_25, cn_25, ci_26, cn_26, ci_27, cn_27, ih]
    try rfl
set_option maxHeartbeats 8000000 in
theorem p_X11_setup {C : Mem} {M : Mem} : f_X11_setup (mic C M) = mc C (f_X11_setup   M) := by
  unfold f_X11_setup
  simp (maxSteps := 4000000) (disch := assumption) only [mc_none, mc_some, mc_ite, mc_bnd, bnd_mc, mc_nm, mc_wck, mc_bndX, bndX_mc, ci_0, cn_0, cl_0, cm_0, ci_1, cn_1, ci_2, cn_2, ci_3, cn_3, ci_4, cn_4, ci_5, cn_5, cl_5, cm_5, ci_6, cn_6, cl_6, cm_6, ci_7, cn_7, ci_8, cn_8, ci_9, cn_9, ci_20, cn_20, cc_20, ci_21, cn_21, cc_21, ci_22, cn_22, ci_23, cn_23, ci_24, cn_24, ci_25, cn_25, ci_26, cn_26, ci_27, cn_27, p_X11_setup_40, p_X3_copyFrom, p_X4_parse]
  try rfl
set_option maxHeartbeats 8000000 in
theorem p_X11_errorCode {C : Mem} {M : Mem} : f_X11_errorCode (mic C M) = mc C (f_X11_errorCode   M) := by
  unfold f_X11_errorCode
  simp (maxSteps := 4000000) (disch := assumption) only [mc_none, mc_some, mc_ite, mc_bnd, bnd_mc, mc_nm, mc_wck, mc_bndX, bndX_mc, ci_0, cn_0, cl_0, cm_0, ci_1, cn_1, ci_2, cn_2, ci_3, cn_3, ci_4, cn_4, ci_5, cn_5, cl_5, cm_5, ci_6, cn_6, cl_6, cm_6, ci_7, cn_7, ci_8, cn_8, ci_9, cn_9, ci_20, cn_20, cc_20, ci_21, cn_21, cc_21, ci_22, cn_22, ci_23, cn_23, ci_24, cn_24, ci_25, cn_25, ci_26, cn_26, ci_27, cn_27]
  try rfl
set_option maxHeartbeats 8000000 in
theorem p_X11_errorPosition {C : Mem} {M : Mem} : f_X11_errorPosition (mic C M) = mc C (f_X11_errorPosition   M) := by
  unfold f_X11_errorPosition
  simp (maxSteps := 4000000) (disch := assumption) only [mc_none, mc_some, mc_ite, mc_bnd, bnd_mc, mc_nm, mc_wck, mc_bndX, bndX_mc, ci_0, cn_0, cl_0, cm_0, ci_1, cn_1, ci_2, cn_2, ci_3, cn_3, ci_4, cn_4, ci_5, cn_5, cl_5, cm_5, ci_6, cn_6, cl_6, cm_6, ci_7, cn_7, ci_8, cn_8, ci_9, cn_9, ci_20, cn_20, cc_20, ci_21, cn_21, cc_21, ci_22, cn_22, ci_23, cn_23, ci_24, cn_24, ci_25, cn_25, ci_26, cn_26, ci_27, cn_27]
  try rfl
set_option maxHeartbeats 8000000 in
theorem p_X11_requireCycles {C : Mem} {x0 : Int32} {x1 : Int32} {M : Mem} : f_X11_requireCycles  x0 x1 (mic C M) = mc C (f_X11_requireCycles  x0 x1 M) := by
  unfold f_X11_requireCycles
  simp (maxSteps := 4000000) (disch := assumption) only [mc_none, mc_some, mc_ite, mc_bnd, bnd_mc, mc_nm, mc_wck, mc_bndX, bndX_mc, ci_0, cn_0, cl_0, cm_0, ci_1, cn_1, ci_2, cn_2, ci_3, cn_3, ci_4, cn_4, ci_5, cn_5, cl_5, cm_5, ci_6, cn_6, cl_6, cm_6, ci_7, cn_7, ci_8, cn_8, ci_9, cn_9, ci_20, cn_20, cc_20, ci_21, cn_21, cc_21, ci_22, cn_22, ci_23, cn_23, ci_24, cn_24, ci_25, cn_25, ci_26, cn_26, ci_27, cn_27]
  try rfl
set_option maxHeartbeats 8000000 in
theorem p_X11_run_17 {C : Mem} : ∀ (n : Nat) (x1 : Int32) (x2 : Int32) (x3 : Int32) (M : Mem), f_X11_run_17  n x1 x2 x3 (mic C M) = mc C (f_X11_run_17  n x1 x2 x3 M) := by
  intro n
  induction n with
  | zero => intro x1 x2 x3 M; rfl
  | succ n ih =>
    intro x1 x2 x3 M
    unfold f_X11_run_17
    simp (maxSteps := 4000000) (disch := assumption) only [mc_none, mc_some, mc_ite, mc_bnd, bnd_mc, mc_nm, mc_wck, mc_bndX, bndX_mc, ci_0, cn_0, cl_0, cm_0, ci_1, cn_1, ci_2, cn_2, ci_3, cn_3, ci_4, cn_4, ci_5, cn_5, cl_5, cm_5, ci_6, cn_6, cl_6, cm_6, ci_7, cn_7, ci_8, cn_8, ci_9, cn_9, ci_20, cn_20, cc_20, ci_21, cn_21, cc_21, ci_22, cn_22, ci_23, cn_23, ci_24, cn_24, ci_25, cn_25, ci_26, cn_26, ci_27, cn_27, p_X3_passCycle, p_X3_resultCount, ih]
    try rfl
set_option maxHeartbeats 8000000 in
theorem p_X11_run {C : Mem} {x1 : Int32} {M : Mem} : f_X11_run  x1 (mic C M) = mc C (f_X11_run  x1 M) := by
  unfold f_X11_run
  simp (maxSteps := 4000000) (disch := assumption) only [mc_none, mc_some, mc_ite, mc_bnd, bnd_mc, mc_nm, mc_wck, mc_bndX, bndX_mc, ci_0, cn_0, cl_0, cm_0, ci_1, cn_1, ci_2, cn_2, ci_3, cn_3, ci_4, cn_4, ci_5, cn_5, cl_5, cm_5, ci_6, cn_6, cl_6, cm_6, ci_7, cn_7, ci_8, cn_8, ci_9, cn_9, ci_20, cn_20, cc_20, ci_21, cn_21, cc_21, ci_22, cn_22, ci_23, cn_23, ci_24, cn_24, ci_25, cn_25, ci_26, cn_26, ci_27, cn_27, p_X11_requireCycles, p_X11_run_17, p_X3_resultCount]
  try rfl
set_option maxHeartbeats 8000000 in
theorem p_X11_requireTrigger {C : Mem} {x0 : Int32} {M : Mem} : f_X11_requireTrigger  x0 (mic C M) = mc C (f_X11_requireTrigger  x0 M) := by
  unfold f_X11_requireTrigger
  simp (maxSteps := 4000000) (disch := assumption) only [mc_none, mc_some, mc_ite, mc_bnd, bnd_mc, mc_nm, mc_wck, mc_bndX, bndX_mc, ci_0, cn_0, cl_0, cm_0, ci_1, cn_1, ci_2, cn_2, ci_3, cn_3, ci_4, cn_4, ci_5, cn_5, cl_5, cm_5, ci_6, cn_6, cl_6, cm_6, ci_7, cn_7, ci_8, cn_8, ci_9, cn_9, ci_20, cn_20, cc_20, ci_21, cn_21, cc_21, ci_22, cn_22, ci_23, cn_23, ci_24, cn_24, ci_25, cn_25, ci_26, cn_26, ci_27, cn_27, p_X10_allows]
  try rfl
set_option maxHeartbeats 8000000 in
theorem p_X11_fire {C : Mem} {x1 : Int32} {M : Mem} : f_X11_fire  x1 (mic C M) = mc C (f_X11_fire  x1 M) := by
  unfold f_X11_fire
  simp (maxSteps := 4000000) (disch := assumption) only [mc_none, mc_some, mc_ite, mc_bnd, bnd_mc, mc_nm, mc_wck, mc_bndX, bndX_mc, ci_0, cn_0, cl_0, cm_0, ci_1, cn_1, ci_2, cn_2, ci_3, cn_3, ci_4, cn_4, ci_5, cn_5, cl_5, cm_5, ci_6, cn_6, cl_6, cm_6, ci_7, cn_7, ci_8, cn_8, ci_9, cn_9, ci_20, cn_20, cc_20, ci_21, cn_21, cc_21, ci_22, cn_22, ci_23, cn_23, ci_24, cn_24, ci_25, cn_25, ci_26, cn_26, ci_27, cn_27, p_X11_requireTrigger, p_X3_fireTrigger]
  try rfl
set_option maxHeartbeats 8000000 in
theorem p_X11_stop {C : Mem} {M : Mem} : f_X11_stop (mic C M) = mc C (f_X11_stop   M) := by
  unfold f_X11_stop
  simp (maxSteps := 4000000) (disch := assumption) only [mc_none, mc_some, mc_ite, mc_bnd, bnd_mc, mc_nm, mc_wck, mc_bndX, bndX_mc, ci_0, cn_0, cl_0, cm_0, ci_1, cn_1, ci_2, cn_2, ci_3, cn_3, ci_4, cn_4, ci_5, cn_5, cl_5, cm_5, ci_6, cn_6, cl_6, cm_6, ci_7, cn_7, ci_8, cn_8, ci_9, cn_9, ci_20, cn_20, cc_20, ci_21, cn_21, cc_21, ci_22, cn_22, ci_23, cn_23, ci_24, cn_24, ci_25, cn_25, ci_26, cn_26, ci_27, cn_27, p_X3_stopRegular]
  try rfl
set_option maxHeartbeats 8000000 in
theorem p_X11_take {C : Mem} {M : Mem} : f_X11_take (mic C M) = mc C (f_X11_take   M) := by
  unfold f_X11_take
  simp (maxSteps := 4000000) (disch := assumption) only [mc_none, mc_some, mc_ite, mc_bnd, bnd_mc, mc_nm, mc_wck, mc_bndX, bndX_mc, ci_0, cn_0, cl_0, cm_0, ci_1, cn_1, ci_2, cn_2, ci_3, cn_3, ci_4, cn_4, ci_5, cn_5, cl_5, cm_5, ci_6, cn_6, cl_6, cm_6, ci_7, cn_7, ci_8, cn_8, ci_9, cn_9, ci_20, cn_20, cc_20, ci_21, cn_21, cc_21, ci_22, cn_22, ci_23, cn_23, ci_24, cn_24, ci_25, cn_25, ci_26, cn_26, ci_27, cn_27, p_X5_oldestNumber, p_X5_removeOldest]
  try rfl
set_option maxHeartbeats 8000000 in
theorem p_X11_requireWindow {C : Mem} {x1 : Int32} {M : Mem} : f_X11_requireWindow  x1 (mic C M) = mc C (f_X11_requireWindow  x1 M) := by
  unfold f_X11_requireWindow
  simp (maxSteps := 4000000) (disch := assumption) only [mc_none, mc_some, mc_ite, mc_bnd, bnd_mc, mc_nm, mc_wck, mc_bndX, bndX_mc, ci_0, cn_0, cl_0, cm_0, ci_1, cn_1, ci_2, cn_2, ci_3, cn_3, ci_4, cn_4, ci_5, cn_5, cl_5, cm_5, ci_6, cn_6, cl_6, cm_6, ci_7, cn_7, ci_8, cn_8, ci_9, cn_9, ci_20, cn_20, cc_20, ci_21, cn_21, cc_21, ci_22, cn_22, ci_23, cn_23, ci_24, cn_24, ci_25, cn_25, ci_26, cn_26, ci_27, cn_27, p_X10_allows]
  try rfl
set_option maxHeartbeats 8000000 in
theorem p_X11_acknowledge {C : Mem} {x1 : Int32} {M : Mem} : f_X11_acknowledge  x1 (mic C M) = mc C (f_X11_acknowledge  x1 M) := by
  unfold f_X11_acknowledge
  simp (maxSteps := 4000000) (disch := assumption) only [mc_none, mc_some, mc_ite, mc_bnd, bnd_mc, mc_nm, mc_wck, mc_bndX, bndX_mc, ci_0, cn_0, cl_0, cm_0, ci_1, cn_1, ci_2, cn_2, ci_3, cn_3, ci_4, cn_4, ci_5, cn_5, cl_5, cm_5, ci_6, cn_6, cl_6, cm_6, ci_7, cn_7, ci_8, cn_8, ci_9, cn_9, ci_20, cn_20, cc_20, ci_21, cn_21, cc_21, ci_22, cn_22, ci_23, cn_23, ci_24, cn_24, ci_25, cn_25, ci_26, cn_26, ci_27, cn_27, p_X11_requireWindow, p_X9_calmDown]
  try rfl
set_option maxHeartbeats 8000000 in
theorem p_X11_requireChannel {C : Mem} {x0 : Int32} {M : Mem} : f_X11_requireChannel  x0 (mic C M) = mc C (f_X11_requireChannel  x0 M) := by
  unfold f_X11_requireChannel
  simp (maxSteps := 4000000) (disch := assumption) only [mc_none, mc_some, mc_ite, mc_bnd, bnd_mc, mc_nm, mc_wck, mc_bndX, bndX_mc, ci_0, cn_0, cl_0, cm_0, ci_1, cn_1, ci_2, cn_2, ci_3, cn_3, ci_4, cn_4, ci_5, cn_5, cl_5, cm_5, ci_6, cn_6, cl_6, cm_6, ci_7, cn_7, ci_8, cn_8, ci_9, cn_9, ci_20, cn_20, cc_20, ci_21, cn_21, cc_21, ci_22, cn_22, ci_23, cn_23, ci_24, cn_24, ci_25, cn_25, ci_26, cn_26, ci_27, cn_27, p_X10_allows]
  try rfl
set_option maxHeartbeats 8000000 in
theorem p_X11_setSignal {C : Mem} {x1 : Int32} {x2 : Int32} {x3 : Int32} {x4 : Int32} {M : Mem} : f_X11_setSignal  x1 x2 x3 x4 (mic C M) = mc C (f_X11_setSignal  x1 x2 x3 x4 M) := by
  unfold f_X11_setSignal
  simp (maxSteps := 4000000) (disch := assumption) only [mc_none, mc_some, mc_ite, mc_bnd, bnd_mc, mc_nm, mc_wck, mc_bndX, bndX_mc, ci_0, cn_0, cl_0, cm_0, ci_1, cn_1, ci_2, cn_2, ci_3, cn_3, ci_4, cn_4, ci_5, cn_5, cl_5, cm_5, ci_6, cn_6, cl_6, cm_6, ci_7, cn_7, ci_8, cn_8, ci_9, cn_9, ci_20, cn_20, cc_20, ci_21, cn_21, cc_21, ci_22, cn_22, ci_23, cn_23, ci_24, cn_24, ci_25, cn_25, ci_26, cn_26, ci_27, cn_27, p_X10_allows, p_X11_requireChannel, p_X1_signalAt]
  try rfl
set_option maxHeartbeats 8000000 in
theorem p_X11_setSample {C : Mem} {x1 : Int32} {x2 : Int32} {M : Mem} : f_X11_setSample  x1 x2 (mic C M) = mc C (f_X11_setSample  x1 x2 M) := by
  unfold f_X11_setSample
  simp (maxSteps := 4000000) (disch := assumption) only [mc_none, mc_some, mc_ite, mc_bnd, bnd_mc, mc_nm, mc_wck, mc_bndX, bndX_mc, ci_0, cn_0, cl_0, cm_0, ci_1, cn_1, ci_2, cn_2, ci_3, cn_3, ci_4, cn_4, ci_5, cn_5, cl_5, cm_5, ci_6, cn_6, cl_6, cm_6, ci_7, cn_7, ci_8, cn_8, ci_9, cn_9, ci_20, cn_20, cc_20, ci_21, cn_21, cc_21, ci_22, cn_22, ci_23, cn_23, ci_24, cn_24, ci_25, cn_25, ci_26, cn_26, ci_27, cn_27, p_X10_allows, p_X11_requireChannel]
  try rfl
set_option maxHeartbeats 8000000 in
theorem p_X11_setWindow {C : Mem} {x1 : Int32} {x2 : Int32} {x3 : Int32} {M : Mem} : f_X11_setWindow  x1 x2 x3 (mic C M) = mc C (f_X11_setWindow  x1 x2 x3 M) := by
  unfold f_X11_setWindow
  simp (maxSteps := 4000000) (disch := assumption) only [mc_none, mc_some, mc_ite, mc_bnd, bnd_mc, mc_nm, mc_wck, mc_bndX, bndX_mc, ci_0, cn_0, cl_0, cm_0, ci_1, cn_1, ci_2, cn_2, ci_3, cn_3, ci_4, cn_4, ci_5, cn_5, cl_5, cm_5, ci_6, cn_6, cl_6, cm_6, ci_7, cn_7, ci_8, cn_8, ci_9, cn_9, ci_20, cn_20, cc_20, ci_21, cn_21, cc_21, ci_22, cn_22, ci_23, cn_23, ci_24, cn_24, ci_25, cn_25, ci_26, cn_26, ci_27, cn_27, p_X11_requireWindow]
  try rfl
set_option maxHeartbeats 8000000 in
theorem p_X11_requirePace {C : Mem} {x0 : Int32} {M : Mem} : f_X11_requirePace  x0 (mic C M) = mc C (f_X11_requirePace  x0 M) := by
  unfold f_X11_requirePace
  simp (maxSteps := 4000000) (disch := assumption) only [mc_none, mc_some, mc_ite, mc_bnd, bnd_mc, mc_nm, mc_wck, mc_bndX, bndX_mc, ci_0, cn_0, cl_0, cm_0, ci_1, cn_1, ci_2, cn_2, ci_3, cn_3, ci_4, cn_4, ci_5, cn_5, cl_5, cm_5, ci_6, cn_6, cl_6, cm_6, ci_7, cn_7, ci_8, cn_8, ci_9, cn_9, ci_20, cn_20, cc_20, ci_21, cn_21, cc_21, ci_22, cn_22, ci_23, cn_23, ci_24, cn_24, ci_25, cn_25, ci_26, cn_26, ci_27, cn_27, p_X10_allows]
  try rfl
set_option maxHeartbeats 8000000 in
theorem p_X11_setPace {C : Mem} {x1 : Int32} {M : Mem} : f_X11_setPace  x1 (mic C M) = mc C (f_X11_setPace  x1 M) := by
  unfold f_X11_setPace
  simp (maxSteps := 4000000) (disch := assumption) only [mc_none, mc_some, mc_ite, mc_bnd, bnd_mc, mc_nm, mc_wck, mc_bndX, bndX_mc, ci_0, cn_0, cl_0, cm_0, ci_1, cn_1, ci_2, cn_2, ci_3, cn_3, ci_4, cn_4, ci_5, cn_5, cl_5, cm_5, ci_6, cn_6, cl_6, cm_6, ci_7, cn_7, ci_8, cn_8, ci_9, cn_9, ci_20, cn_20, cc_20, ci_21, cn_21, cc_21, ci_22, cn_22, ci_23, cn_23, ci_24, cn_24, ci_25, cn_25, ci_26, cn_26, ci_27, cn_27, p_X11_requirePace]
  try rfl
set_option maxHeartbeats 8000000 in
theorem p_X11_requireWhat {C : Mem} {x0 : Int32} {x1 : Int32} {M : Mem} : f_X11_requireWhat  x0 x1 (mic C M) = mc C (f_X11_requireWhat  x0 x1 M) := by
  unfold f_X11_requireWhat
  simp (maxSteps := 4000000) (disch := assumption) only [mc_none, mc_some, mc_ite, mc_bnd, bnd_mc, mc_nm, mc_wck, mc_bndX, bndX_mc, ci_0, cn_0, cl_0, cm_0, ci_1, cn_1, ci_2, cn_2, ci_3, cn_3, ci_4, cn_4, ci_5, cn_5, cl_5, cm_5, ci_6, cn_6, cl_6, cm_6, ci_7, cn_7, ci_8, cn_8, ci_9, cn_9, ci_20, cn_20, cc_20, ci_21, cn_21, cc_21, ci_22, cn_22, ci_23, cn_23, ci_24, cn_24, ci_25, cn_25, ci_26, cn_26, ci_27, cn_27]
  try rfl
set_option maxHeartbeats 8000000 in
theorem p_X11_state_26 {C : Mem} {x1 : Int32} {c2 : Nat} {xs0 : Int32} {M : Mem} : f_X11_state_26  x1 c2 xs0 (mic C M) = mc C (f_X11_state_26  x1 c2 xs0 M) := by
  unfold f_X11_state_26
  simp (maxSteps := 4000000) (disch := assumption) only [mc_none, mc_some, mc_ite, mc_bnd, bnd_mc, mc_nm, mc_wck, mc_bndX, bndX_mc, ci_0, cn_0, cl_0, cm_0, ci_1, cn_1, ci_2, cn_2, ci_3, cn_3, ci_4, cn_4, ci_5, cn_5, cl_5, cm_5, ci_6, cn_6, cl_6, cm_6, ci_7, cn_7, ci_8, cn_8, ci_9, cn_9, ci_20, cn_20, cc_20, ci_21, cn_21, cc_21, ci_22, cn_22, ci_23, cn_23, ci_24, cn_24, ci_25, cn_25, ci_26, cn_26, ci_27, cn_27]
  try rfl
set_option maxHeartbeats 8000000 in
theorem p_X11_state {C : Mem} {x1 : Int32} {M : Mem} : f_X11_state  x1 (mic C M) = mc C (f_X11_state  x1 M) := by
  unfold f_X11_state
  simp (maxSteps := 4000000) (disch := assumption) only [mc_none, mc_some, mc_ite, mc_bnd, bnd_mc, mc_nm, mc_wck, mc_bndX, bndX_mc, ci_0, cn_0, cl_0, cm_0, ci_1, cn_1, ci_2, cn_2, ci_3, cn_3, ci_4, cn_4, ci_5, cn_5, cl_5, cm_5, ci_6, cn_6, cl_6, cm_6, ci_7, cn_7, ci_8, cn_8, ci_9, cn_9, ci_20, cn_20, cc_20, ci_21, cn_21, cc_21, ci_22, cn_22, ci_23, cn_23, ci_24, cn_24, ci_25, cn_25, ci_26, cn_26, ci_27, cn_27, p_X11_requireWhat, p_X11_state_26]
  try rfl
set_option maxHeartbeats 8000000 in
theorem p_X11_sequence_19 {C : Mem} {x2 : Int32} {xs0 : Int32} {cs1 : Nat} {M : Mem} : f_X11_sequence_19  x2 xs0 cs1 (mic C M) = mc C (f_X11_sequence_19  x2 xs0 cs1 M) := by
  unfold f_X11_sequence_19
  simp (maxSteps := 4000000) (disch := assumption) only [mc_none, mc_some, mc_ite, mc_bnd, bnd_mc, mc_nm, mc_wck, mc_bndX, bndX_mc, ci_0, cn_0, cl_0, cm_0, ci_1, cn_1, ci_2, cn_2, ci_3, cn_3, ci_4, cn_4, ci_5, cn_5, cl_5, cm_5, ci_6, cn_6, cl_6, cm_6, ci_7, cn_7, ci_8, cn_8, ci_9, cn_9, ci_20, cn_20, cc_20, ci_21, cn_21, cc_21, ci_22, cn_22, ci_23, cn_23, ci_24, cn_24, ci_25, cn_25, ci_26, cn_26, ci_27, cn_27, p_X3_sequenceOf]
  try rfl
set_option maxHeartbeats 8000000 in
theorem p_X11_sequence {C : Mem} {x1 : Int32} {x2 : Int32} {M : Mem} : f_X11_sequence  x1 x2 (mic C M) = mc C (f_X11_sequence  x1 x2 M) := by
  unfold f_X11_sequence
  simp (maxSteps := 4000000) (disch := assumption) only [mc_none, mc_some, mc_ite, mc_bnd, bnd_mc, mc_nm, mc_wck, mc_bndX, bndX_mc, ci_0, cn_0, cl_0, cm_0, ci_1, cn_1, ci_2, cn_2, ci_3, cn_3, ci_4, cn_4, ci_5, cn_5, cl_5, cm_5, ci_6, cn_6, cl_6, cm_6, ci_7, cn_7, ci_8, cn_8, ci_9, cn_9, ci_20, cn_20, cc_20, ci_21, cn_21, cc_21, ci_22, cn_22, ci_23, cn_23, ci_24, cn_24, ci_25, cn_25, ci_26, cn_26, ci_27, cn_27, p_X11_requireWhat, p_X11_sequence_19]
  try rfl
set_option maxHeartbeats 8000000 in
theorem p_X11_entry_13 {C : Mem} {x2 : Int32} {xs0 : Int32} {cs1 : Nat} {M : Mem} : f_X11_entry_13  x2 xs0 cs1 (mic C M) = mc C (f_X11_entry_13  x2 xs0 cs1 M) := by
  unfold f_X11_entry_13
  simp (maxSteps := 4000000) (disch := assumption) only [mc_none, mc_some, mc_ite, mc_bnd, bnd_mc, mc_nm, mc_wck, mc_bndX, bndX_mc, ci_0, cn_0, cl_0, cm_0, ci_1, cn_1, ci_2, cn_2, ci_3, cn_3, ci_4, cn_4, ci_5, cn_5, cl_5, cm_5, ci_6, cn_6, cl_6, cm_6, ci_7, cn_7, ci_8, cn_8, ci_9, cn_9, ci_20, cn_20, cc_20, ci_21, cn_21, cc_21, ci_22, cn_22, ci_23, cn_23, ci_24, cn_24, ci_25, cn_25, ci_26, cn_26, ci_27, cn_27, p_X3_sequenceOf]
  try rfl
set_option maxHeartbeats 8000000 in
theorem p_X11_entry {C : Mem} {x1 : Int32} {x2 : Int32} {M : Mem} : f_X11_entry  x1 x2 (mic C M) = mc C (f_X11_entry  x1 x2 M) := by
  unfold f_X11_entry
  simp (maxSteps := 4000000) (disch := assumption) only [mc_none, mc_some, mc_ite, mc_bnd, bnd_mc, mc_nm, mc_wck, mc_bndX, bndX_mc, ci_0, cn_0, cl_0, cm_0, ci_1, cn_1, ci_2, cn_2, ci_3, cn_3, ci_4, cn_4, ci_5, cn_5, cl_5, cm_5, ci_6, cn_6, cl_6, cm_6, ci_7, cn_7, ci_8, cn_8, ci_9, cn_9, ci_20, cn_20, cc_20, ci_21, cn_21, cc_21, ci_22, cn_22, ci_23, cn_23, ci_24, cn_24, ci_25, cn_25, ci_26, cn_26, ci_27, cn_27, p_X11_entry_13]
  try rfl
set_option maxHeartbeats 8000000 in
theorem p_X11_channel {C : Mem} {x1 : Int32} {x2 : Int32} {M : Mem} : f_X11_channel  x1 x2 (mic C M) = mc C (f_X11_channel  x1 x2 M) := by
  unfold f_X11_channel
  simp (maxSteps := 4000000) (disch := assumption) only [mc_none, mc_some, mc_ite, mc_bnd, bnd_mc, mc_nm, mc_wck, mc_bndX, bndX_mc, ci_0, cn_0, cl_0, cm_0, ci_1, cn_1, ci_2, cn_2, ci_3, cn_3, ci_4, cn_4, ci_5, cn_5, cl_5, cm_5, ci_6, cn_6, cl_6, cm_6, ci_7, cn_7, ci_8, cn_8, ci_9, cn_9, ci_20, cn_20, cc_20, ci_21, cn_21, cc_21, ci_22, cn_22, ci_23, cn_23, ci_24, cn_24, ci_25, cn_25, ci_26, cn_26, ci_27, cn_27, p_X11_requireChannel, p_X11_requireWhat]
  try rfl
set_option maxHeartbeats 8000000 in
theorem p_X11_sum {C : Mem} {x1 : Int32} {M : Mem} : f_X11_sum  x1 (mic C M) = mc C (f_X11_sum  x1 M) := by
  unfold f_X11_sum
  simp (maxSteps := 4000000) (disch := assumption) only [mc_none, mc_some, mc_ite, mc_bnd, bnd_mc, mc_nm, mc_wck, mc_bndX, bndX_mc, ci_0, cn_0, cl_0, cm_0, ci_1, cn_1, ci_2, cn_2, ci_3, cn_3, ci_4, cn_4, ci_5, cn_5, cl_5, cm_5, ci_6, cn_6, cl_6, cm_6, ci_7, cn_7, ci_8, cn_8, ci_9, cn_9, ci_20, cn_20, cc_20, ci_21, cn_21, cc_21, ci_22, cn_22, ci_23, cn_23, ci_24, cn_24, ci_25, cn_25, ci_26, cn_26, ci_27, cn_27, p_X11_requireChannel]
  try rfl
set_option maxHeartbeats 8000000 in
theorem p_X11_mean {C : Mem} {x1 : Int32} {M : Mem} : f_X11_mean  x1 (mic C M) = mc C (f_X11_mean  x1 M) := by
  unfold f_X11_mean
  simp (maxSteps := 4000000) (disch := assumption) only [mc_none, mc_some, mc_ite, mc_bnd, bnd_mc, mc_nm, mc_wck, mc_bndX, bndX_mc, ci_0, cn_0, cl_0, cm_0, ci_1, cn_1, ci_2, cn_2, ci_3, cn_3, ci_4, cn_4, ci_5, cn_5, cl_5, cm_5, ci_6, cn_6, cl_6, cm_6, ci_7, cn_7, ci_8, cn_8, ci_9, cn_9, ci_20, cn_20, cc_20, ci_21, cn_21, cc_21, ci_22, cn_22, ci_23, cn_23, ci_24, cn_24, ci_25, cn_25, ci_26, cn_26, ci_27, cn_27, p_X11_requireChannel]
  try rfl
set_option maxHeartbeats 8000000 in
theorem p_X11_trigger {C : Mem} {x1 : Int32} {x2 : Int32} {M : Mem} : f_X11_trigger  x1 x2 (mic C M) = mc C (f_X11_trigger  x1 x2 M) := by
  unfold f_X11_trigger
  simp (maxSteps := 4000000) (disch := assumption) only [mc_none, mc_some, mc_ite, mc_bnd, bnd_mc, mc_nm, mc_wck, mc_bndX, bndX_mc, ci_0, cn_0, cl_0, cm_0, ci_1, cn_1, ci_2, cn_2, ci_3, cn_3, ci_4, cn_4, ci_5, cn_5, cl_5, cm_5, ci_6, cn_6, cl_6, cm_6, ci_7, cn_7, ci_8, cn_8, ci_9, cn_9, ci_20, cn_20, cc_20, ci_21, cn_21, cc_21, ci_22, cn_22, ci_23, cn_23, ci_24, cn_24, ci_25, cn_25, ci_26, cn_26, ci_27, cn_27, p_X11_requireTrigger, p_X11_requireWhat]
  try rfl
set_option maxHeartbeats 8000000 in
theorem p_X11_window {C : Mem} {x1 : Int32} {x2 : Int32} {M : Mem} : f_X11_window  x1 x2 (mic C M) = mc C (f_X11_window  x1 x2 M) := by
  unfold f_X11_window
  simp (maxSteps := 4000000) (disch := assumption) only [mc_none, mc_some, mc_ite, mc_bnd, bnd_mc, mc_nm, mc_wck, mc_bndX, bndX_mc, ci_0, cn_0, cl_0, cm_0, ci_1, cn_1, ci_2, cn_2, ci_3, cn_3, ci_4, cn_4, ci_5, cn_5, cl_5, cm_5, ci_6, cn_6, cl_6, cm_6, ci_7, cn_7, ci_8, cn_8, ci_9, cn_9, ci_20, cn_20, cc_20, ci_21, cn_21, cc_21, ci_22, cn_22, ci_23, cn_23, ci_24, cn_24, ci_25, cn_25, ci_26, cn_26, ci_27, cn_27, p_X11_requireWhat, p_X11_requireWindow]
  try rfl
set_option maxHeartbeats 8000000 in
theorem p_X11_signal {C : Mem} {x1 : Int32} {x2 : Int32} {M : Mem} : f_X11_signal  x1 x2 (mic C M) = mc C (f_X11_signal  x1 x2 M) := by
  unfold f_X11_signal
  simp (maxSteps := 4000000) (disch := assumption) only [mc_none, mc_some, mc_ite, mc_bnd, bnd_mc, mc_nm, mc_wck, mc_bndX, bndX_mc, ci_0, cn_0, cl_0, cm_0, ci_1, cn_1, ci_2, cn_2, ci_3, cn_3, ci_4, cn_4, ci_5, cn_5, cl_5, cm_5, ci_6, cn_6, cl_6, cm_6, ci_7, cn_7, ci_8, cn_8, ci_9, cn_9, ci_20, cn_20, cc_20, ci_21, cn_21, cc_21, ci_22, cn_22, ci_23, cn_23, ci_24, cn_24, ci_25, cn_25, ci_26, cn_26, ci_27, cn_27, p_X11_requireChannel, p_X1_signalAt]
  try rfl
set_option maxHeartbeats 8000000 in
theorem p_X11_numberOf {C : Mem} {c0 : Nat} {j0 : Nat} {x1 : Int32} {x2 : Int32} {M : Mem} : f_X11_numberOf  c0 j0 x1 x2 (mic C M) = mc C (f_X11_numberOf  c0 j0 x1 x2 M) := by
  unfold f_X11_numberOf
  simp (maxSteps := 4000000) (disch := assumption) only [mc_none, mc_some, mc_ite, mc_bnd, bnd_mc, mc_nm, mc_wck, mc_bndX, bndX_mc, ci_0, cn_0, cl_0, cm_0, ci_1, cn_1, ci_2, cn_2, ci_3, cn_3, ci_4, cn_4, ci_5, cn_5, cl_5, cm_5, ci_6, cn_6, cl_6, cm_6, ci_7, cn_7, ci_8, cn_8, ci_9, cn_9, ci_20, cn_20, cc_20, ci_21, cn_21, cc_21, ci_22, cn_22, ci_23, cn_23, ci_24, cn_24, ci_25, cn_25, ci_26, cn_26, ci_27, cn_27, p_X11_requireWhat, p_X5_number]
  try rfl
set_option maxHeartbeats 8000000 in
theorem p_X11_queued {C : Mem} {x1 : Int32} {x2 : Int32} {M : Mem} : f_X11_queued  x1 x2 (mic C M) = mc C (f_X11_queued  x1 x2 M) := by
  unfold f_X11_queued
  simp (maxSteps := 4000000) (disch := assumption) only [mc_none, mc_some, mc_ite, mc_bnd, bnd_mc, mc_nm, mc_wck, mc_bndX, bndX_mc, ci_0, cn_0, cl_0, cm_0, ci_1, cn_1, ci_2, cn_2, ci_3, cn_3, ci_4, cn_4, ci_5, cn_5, cl_5, cm_5, ci_6, cn_6, cl_6, cm_6, ci_7, cn_7, ci_8, cn_8, ci_9, cn_9, ci_20, cn_20, cc_20, ci_21, cn_21, cc_21, ci_22, cn_22, ci_23, cn_23, ci_24, cn_24, ci_25, cn_25, ci_26, cn_26, ci_27, cn_27, p_X11_numberOf]
  try rfl
set_option maxHeartbeats 8000000 in
theorem p_X11_stored {C : Mem} {x1 : Int32} {x2 : Int32} {M : Mem} : f_X11_stored  x1 x2 (mic C M) = mc C (f_X11_stored  x1 x2 M) := by
  unfold f_X11_stored
  simp (maxSteps := 4000000) (disch := assumption) only [mc_none, mc_some, mc_ite, mc_bnd, bnd_mc, mc_nm, mc_wck, mc_bndX, bndX_mc, ci_0, cn_0, cl_0, cm_0, ci_1, cn_1, ci_2, cn_2, ci_3, cn_3, ci_4, cn_4, ci_5, cn_5, cl_5, cm_5, ci_6, cn_6, cl_6, cm_6, ci_7, cn_7, ci_8, cn_8, ci_9, cn_9, ci_20, cn_20, cc_20, ci_21, cn_21, cc_21, ci_22, cn_22, ci_23, cn_23, ci_24, cn_24, ci_25, cn_25, ci_26, cn_26, ci_27, cn_27, p_X11_numberOf]
  try rfl
set_option maxHeartbeats 8000000 in
theorem p_X11_memorySize {C : Mem} {M : Mem} : f_X11_memorySize (mic C M) = mc C (f_X11_memorySize   M) := by
  unfold f_X11_memorySize
  simp (maxSteps := 4000000) (disch := assumption) only [mc_none, mc_some, mc_ite, mc_bnd, bnd_mc, mc_nm, mc_wck, mc_bndX, bndX_mc, ci_0, cn_0, cl_0, cm_0, ci_1, cn_1, ci_2, cn_2, ci_3, cn_3, ci_4, cn_4, ci_5, cn_5, cl_5, cm_5, ci_6, cn_6, cl_6, cm_6, ci_7, cn_7, ci_8, cn_8, ci_9, cn_9, ci_20, cn_20, cc_20, ci_21, cn_21, cc_21, ci_22, cn_22, ci_23, cn_23, ci_24, cn_24, ci_25, cn_25, ci_26, cn_26, ci_27, cn_27]
  try rfl
set_option maxHeartbeats 8000000 in
theorem p_X11_injected {C : Mem} {x1 : Int32} {x2 : Int32} {M : Mem} : f_X11_injected  x1 x2 (mic C M) = mc C (f_X11_injected  x1 x2 M) := by
  unfold f_X11_injected
  simp (maxSteps := 4000000) (disch := assumption) only [mc_none, mc_some, mc_ite, mc_bnd, bnd_mc, mc_nm, mc_wck, mc_bndX, bndX_mc, ci_0, cn_0, cl_0, cm_0, ci_1, cn_1, ci_2, cn_2, ci_3, cn_3, ci_4, cn_4, ci_5, cn_5, cl_5, cm_5, ci_6, cn_6, cl_6, cm_6, ci_7, cn_7, ci_8, cn_8, ci_9, cn_9, ci_20, cn_20, cc_20, ci_21, cn_21, cc_21, ci_22, cn_22, ci_23, cn_23, ci_24, cn_24, ci_25, cn_25, ci_26, cn_26, ci_27, cn_27, p_X11_requireWhat, p_X5_number]
  try rfl
set_option maxHeartbeats 8000000 in
theorem p_X11_latency_13 {C : Mem} {xs0 : Int32} {cs1 : Nat} {M : Mem} : f_X11_latency_13  xs0 cs1 (mic C M) = mc C (f_X11_latency_13  xs0 cs1 M) := by
  unfold f_X11_latency_13
  simp (maxSteps := 4000000) (disch := assumption) only [mc_none, mc_some, mc_ite, mc_bnd, bnd_mc, mc_nm, mc_wck, mc_bndX, bndX_mc, ci_0, cn_0, cl_0, cm_0, ci_1, cn_1, ci_2, cn_2, ci_3, cn_3, ci_4, cn_4, ci_5, cn_5, cl_5, cm_5, ci_6, cn_6, cl_6, cm_6, ci_7, cn_7, ci_8, cn_8, ci_9, cn_9, ci_20, cn_20, cc_20, ci_21, cn_21, cc_21, ci_22, cn_22, ci_23, cn_23, ci_24, cn_24, ci_25, cn_25, ci_26, cn_26, ci_27, cn_27, p_X3_sequenceOf]
  try rfl
set_option maxHeartbeats 8000000 in
theorem p_X11_latency {C : Mem} {x1 : Int32} {M : Mem} : f_X11_latency  x1 (mic C M) = mc C (f_X11_latency  x1 M) := by
  unfold f_X11_latency
  simp (maxSteps := 4000000) (disch := assumption) only [mc_none, mc_some, mc_ite, mc_bnd, bnd_mc, mc_nm, mc_wck, mc_bndX, bndX_mc, ci_0, cn_0, cl_0, cm_0, ci_1, cn_1, ci_2, cn_2, ci_3, cn_3, ci_4, cn_4, ci_5, cn_5, cl_5, cm_5, ci_6, cn_6, cl_6, cm_6, ci_7, cn_7, ci_8, cn_8, ci_9, cn_9, ci_20, cn_20, cc_20, ci_21, cn_21, cc_21, ci_22, cn_22, ci_23, cn_23, ci_24, cn_24, ci_25, cn_25, ci_26, cn_26, ci_27, cn_27, p_X11_latency_13]
  try rfl
set_option maxHeartbeats 8000000 in
theorem p_X11_nextResult_28 {C : Mem} : ∀ (n : Nat) (x1 : Int32) (x2 : Int32) (x3 : Int32) (M : Mem), f_X11_nextResult_28  n x1 x2 x3 (mic C M) = mc C (f_X11_nextResult_28  n x1 x2 x3 M) := by
  intro n
  induction n with
  | zero => intro x1 x2 x3 M; rfl
  | succ n ih =>
    intro x1 x2 x3 M
    unfold f_X11_nextResult_28
    simp (maxSteps := 4000000) (disch := assumption) only [mc_none, mc_some, mc_ite, mc_bnd, bnd_mc, mc_nm, mc_wck, mc_bndX, bndX_mc, ci_0, cn_0, cl_0, cm_0, ci_1, cn_1, ci_2, cn_2, ci_3, cn_3, ci_4, cn_4, ci_5, cn_5, cl_5, cm_5, ci_6, cn_6, cl_6, cm_6, ci_7, cn_7, ci_8, cn_8, ci_9, cn_9, ci_20, cn_20, cc_20, ci_21, cn_21, cc_21, ci_22, cn_22, ci_23, cn_23, ci_24, cn_24, ci_25, cn_25, ci_26, cn_26, ci_27, cn_27, p_X3_passCycle, p_X3_resultCount, ih]
    try rfl
set_option maxHeartbeats 8000000 in
theorem p_X11_nextResult {C : Mem} {x1 : Int32} {M : Mem} : f_X11_nextResult  x1 (mic C M) = mc C (f_X11_nextResult  x1 M) := by
  unfold f_X11_nextResult
  simp (maxSteps := 4000000) (disch := assumption) only [mc_none, mc_some, mc_ite, mc_bnd, bnd_mc, mc_nm, mc_wck, mc_bndX, bndX_mc, ci_0, cn_0, cl_0, cm_0, ci_1, cn_1, ci_2, cn_2, ci_3, cn_3, ci_4, cn_4, ci_5, cn_5, cl_5, cm_5, ci_6, cn_6, cl_6, cm_6, ci_7, cn_7, ci_8, cn_8, ci_9, cn_9, ci_20, cn_20, cc_20, ci_21, cn_21, cc_21, ci_22, cn_22, ci_23, cn_23, ci_24, cn_24, ci_25, cn_25, ci_26, cn_26, ci_27, cn_27, p_X11_nextResult_28, p_X11_requireCycles, p_X3_copyFrom, p_X3_resultCount]
  try rfl
set_option maxHeartbeats 8000000 in
theorem p_X11_whenRaised_53 {C : Mem} : ∀ (n : Nat) (x2 : Int32) (c3 : Nat) (j3 : Nat) (x4 : Int32) (M : Mem), f_X11_whenRaised_53  n x2 c3 j3 x4 (mic C M) = mc C (f_X11_whenRaised_53  n x2 c3 j3 x4 M) := by
  intro n
  induction n with
  | zero => intro x2 c3 j3 x4 M; rfl
  | succ n ih =>
    intro x2 c3 j3 x4 M
    unfold f_X11_whenRaised_53
    simp (maxSteps := 4000000) (disch := assumption) only [mc_none, mc_some, mc_ite, mc_bnd, bnd_mc, mc_nm, mc_wck, mc_bndX, bndX_mc, ci_0, cn_0, cl_0, cm_0, ci_1, cn_1, ci_2, cn_2, ci_3, cn_3, ci_4, cn_4, ci_5, cn_5, cl_5, cm_5, ci_6, cn_6, cl_6, cm_6, ci_7, cn_7, ci_8, cn_8, ci_9, cn_9, ci_20, cn_20, cc_20, ci_21, cn_21, cc_21, ci_22, cn_22, ci_23, cn_23, ci_24, cn_24, ci_25, cn_25, ci_26, cn_26, ci_27, cn_27, p_X3_passCycle, ih]
    try rfl
set_option maxHeartbeats 8000000 in
theorem p_X11_whenRaised {C : Mem} {x1 : Int32} {x2 : Int32} {M : Mem} : f_X11_whenRaised  x1 x2 (mic C M) = mc C (f_X11_whenRaised  x1 x2 M) := by
  unfold f_X11_whenRaised
  simp (maxSteps := 4000000) (disch := assumption) only [mc_none, mc_some, mc_ite, mc_bnd, bnd_mc, mc_nm, mc_wck, mc_bndX, bndX_mc, ci_0, cn_0, cl_0, cm_0, ci_1, cn_1, ci_2, cn_2, ci_3, cn_3, ci_4, cn_4, ci_5, cn_5, cl_5, cm_5, ci_6, cn_6, cl_6, cm_6, ci_7, cn_7, ci_8, cn_8, ci_9, cn_9, ci_20, cn_20, cc_20, ci_21, cn_21, cc_21, ci_22, cn_22, ci_23, cn_23, ci_24, cn_24, ci_25, cn_25, ci_26, cn_26, ci_27, cn_27, p_X11_requireCycles, p_X11_requireWindow, p_X11_whenRaised_53, p_X3_copyFrom]
  try rfl
set_option maxHeartbeats 8000000 in
theorem p_X11_countOverruns_25 {C : Mem} : ∀ (n : Nat) (x2 : Int32) (x3 : Int32) (x4 : Int32) (x5 : Int32) (M : Mem), f_X11_countOverruns_25  n x2 x3 x4 x5 (mic C M) = mc C (f_X11_countOverruns_25  n x2 x3 x4 x5 M) := by
  intro n
  induction n with
  | zero => intro x2 x3 x4 x5 M; rfl
  | succ n ih =>
    intro x2 x3 x4 x5 M
    unfold f_X11_countOverruns_25
    simp (maxSteps := 4000000) (disch := assumption) only [mc_none, mc_some, mc_ite, mc_bnd, bnd_mc, mc_nm, mc_wck, mc_bndX, bndX_mc, ci_0, cn_0, cl_0, cm_0, ci_1, cn_1, ci_2, cn_2, ci_3, cn_3, ci_4, cn_4, ci_5, cn_5, cl_5, cm_5, ci_6, cn_6, cl_6, cm_6, ci_7, cn_7, ci_8, cn_8, ci_9, cn_9, ci_20, cn_20, cc_20, ci_21, cn_21, cc_21, ci_22, cn_22, ci_23, cn_23, ci_24, cn_24, ci_25, cn_25, ci_26, cn_26, ci_27, cn_27, p_X3_passCycle, ih]
    try rfl
set_option maxHeartbeats 8000000 in
theorem p_X11_countOverruns {C : Mem} {x1 : Int32} {x2 : Int32} {x3 : Int32} {M : Mem} : f_X11_countOverruns  x1 x2 x3 (mic C M) = mc C (f_X11_countOverruns  x1 x2 x3 M) := by
  unfold f_X11_countOverruns
  simp (maxSteps := 4000000) (disch := assumption) only [mc_none, mc_some, mc_ite, mc_bnd, bnd_mc, mc_nm, mc_wck, mc_bndX, bndX_mc, ci_0, cn_0, cl_0, cm_0, ci_1, cn_1, ci_2, cn_2, ci_3, cn_3, ci_4, cn_4, ci_5, cn_5, cl_5, cm_5, ci_6, cn_6, cl_6, cm_6, ci_7, cn_7, ci_8, cn_8, ci_9, cn_9, ci_20, cn_20, cc_20, ci_21, cn_21, cc_21, ci_22, cn_22, ci_23, cn_23, ci_24, cn_24, ci_25, cn_25, ci_26, cn_26, ci_27, cn_27, p_X11_countOverruns_25, p_X3_copyFrom]
  try rfl
set_option maxHeartbeats 8000000 in
theorem p_X11_overrunsWith {C : Mem} {x1 : Int32} {x2 : Int32} {M : Mem} : f_X11_overrunsWith  x1 x2 (mic C M) = mc C (f_X11_overrunsWith  x1 x2 M) := by
  unfold f_X11_overrunsWith
  simp (maxSteps := 4000000) (disch := assumption) only [mc_none, mc_some, mc_ite, mc_bnd, bnd_mc, mc_nm, mc_wck, mc_bndX, bndX_mc, ci_0, cn_0, cl_0, cm_0, ci_1, cn_1, ci_2, cn_2, ci_3, cn_3, ci_4, cn_4, ci_5, cn_5, cl_5, cm_5, ci_6, cn_6, cl_6, cm_6, ci_7, cn_7, ci_8, cn_8, ci_9, cn_9, ci_20, cn_20, cc_20, ci_21, cn_21, cc_21, ci_22, cn_22, ci_23, cn_23, ci_24, cn_24, ci_25, cn_25, ci_26, cn_26, ci_27, cn_27, p_X11_countOverruns, p_X11_requireCycles, p_X11_requirePace]
  try rfl
set_option maxHeartbeats 8000000 in
theorem p_X11_slowestPace_10 {C : Mem} : ∀ (n : Nat) (x1 : Int32) (x2 : Int32) (M : Mem), f_X11_slowestPace_10  n x1 x2 (mic C M) = mc C (f_X11_slowestPace_10  n x1 x2 M) := by
  intro n
  induction n with
  | zero => intro x1 x2 M; rfl
  | succ n ih =>
    intro x1 x2 M
    unfold f_X11_slowestPace_10
    simp (maxSteps := 4000000) (disch := assumption) only [mc_none, mc_some, mc_ite, mc_bnd, bnd_mc, mc_nm, mc_wck, mc_bndX, bndX_mc, ci_0, cn_0, cl_0, cm_0, ci_1, cn_1, ci_2, cn_2, ci_3, cn_3, ci_4, cn_4, ci_5, cn_5, cl_5, cm_5, ci_6, cn_6, cl_6, cm_6, ci_7, cn_7, ci_8, cn_8, ci_9, cn_9, ci_20, cn_20, cc_20, ci_21, cn_21, cc_21, ci_22, cn_22, ci_23, cn_23, ci_24, cn_24, ci_25, cn_25, ci_26, cn_26, ci_27, cn_27, p_X11_countOverruns, ih]
    try rfl
set_option maxHeartbeats 8000000 in
theorem p_X11_slowestPace {C : Mem} {x1 : Int32} {M : Mem} : f_X11_slowestPace  x1 (mic C M) = mc C (f_X11_slowestPace  x1 M) := by
  unfold f_X11_slowestPace
  simp (maxSteps := 4000000) (disch := assumption) only [mc_none, mc_some, mc_ite, mc_bnd, bnd_mc, mc_nm, mc_wck, mc_bndX, bndX_mc, ci_0, cn_0, cl_0, cm_0, ci_1, cn_1, ci_2, cn_2, ci_3, cn_3, ci_4, cn_4, ci_5, cn_5, cl_5, cm_5, ci_6, cn_6, cl_6, cm_6, ci_7, cn_7, ci_8, cn_8, ci_9, cn_9, ci_20, cn_20, cc_20, ci_21, cn_21, cc_21, ci_22, cn_22, ci_23, cn_23, ci_24, cn_24, ci_25, cn_25, ci_26, cn_26, ci_27, cn_27, p_X11_requireCycles, p_X11_slowestPace_10]
  try rfl
set_option maxHeartbeats 8000000 in
theorem p_X11_passLength_22 {C : Mem} : ∀ (n : Nat) (c2 : Nat) (j2 : Nat) (x3 : Int32) (x4 : Int32) (M : Mem), f_X11_passLength_22  n c2 j2 x3 x4 (mic C M) = mc C (f_X11_passLength_22  n c2 j2 x3 x4 M) := by
  intro n
  induction n with
  | zero => intro c2 j2 x3 x4 M; rfl
  | succ n ih =>
    intro c2 j2 x3 x4 M
    unfold f_X11_passLength_22
    simp (maxSteps := 4000000) (disch := assumption) only [mc_none, mc_some, mc_ite, mc_bnd, bnd_mc, mc_nm, mc_wck, mc_bndX, bndX_mc, ci_0, cn_0, cl_0, cm_0, ci_1, cn_1, ci_2, cn_2, ci_3, cn_3, ci_4, cn_4, ci_5, cn_5, cl_5, cm_5, ci_6, cn_6, cl_6, cm_6, ci_7, cn_7, ci_8, cn_8, ci_9, cn_9, ci_20, cn_20, cc_20, ci_21, cn_21, cc_21, ci_22, cn_22, ci_23, cn_23, ci_24, cn_24, ci_25, cn_25, ci_26, cn_26, ci_27, cn_27, p_X1_conversionLength, ih]
    try rfl
set_option maxHeartbeats 8000000 in
theorem p_X11_passLength_13 {C : Mem} {xs0 : Int32} {cs1 : Nat} {M : Mem} : f_X11_passLength_13  xs0 cs1 (mic C M) = mc C (f_X11_passLength_13  xs0 cs1 M) := by
  unfold f_X11_passLength_13
  simp (maxSteps := 4000000) (disch := assumption) only [mc_none, mc_some, mc_ite, mc_bnd, bnd_mc, mc_nm, mc_wck, mc_bndX, bndX_mc, ci_0, cn_0, cl_0, cm_0, ci_1, cn_1, ci_2, cn_2, ci_3, cn_3, ci_4, cn_4, ci_5, cn_5, cl_5, cm_5, ci_6, cn_6, cl_6, cm_6, ci_7, cn_7, ci_8, cn_8, ci_9, cn_9, ci_20, cn_20, cc_20, ci_21, cn_21, cc_21, ci_22, cn_22, ci_23, cn_23, ci_24, cn_24, ci_25, cn_25, ci_26, cn_26, ci_27, cn_27, p_X11_passLength_22, p_X3_sequenceOf]
  try rfl
set_option maxHeartbeats 8000000 in
theorem p_X11_passLength {C : Mem} {x1 : Int32} {M : Mem} : f_X11_passLength  x1 (mic C M) = mc C (f_X11_passLength  x1 M) := by
  unfold f_X11_passLength
  simp (maxSteps := 4000000) (disch := assumption) only [mc_none, mc_some, mc_ite, mc_bnd, bnd_mc, mc_nm, mc_wck, mc_bndX, bndX_mc, ci_0, cn_0, cl_0, cm_0, ci_1, cn_1, ci_2, cn_2, ci_3, cn_3, ci_4, cn_4, ci_5, cn_5, cl_5, cm_5, ci_6, cn_6, cl_6, cm_6, ci_7, cn_7, ci_8, cn_8, ci_9, cn_9, ci_20, cn_20, cc_20, ci_21, cn_21, cc_21, ci_22, cn_22, ci_23, cn_23, ci_24, cn_24, ci_25, cn_25, ci_26, cn_26, ci_27, cn_27, p_X11_passLength_13]
  try rfl
set_option maxHeartbeats 8000000 in
theorem p_X11_requireSlot {C : Mem} {x0 : Int32} {M : Mem} : f_X11_requireSlot  x0 (mic C M) = mc C (f_X11_requireSlot  x0 M) := by
  unfold f_X11_requireSlot
  simp (maxSteps := 4000000) (disch := assumption) only [mc_none, mc_some, mc_ite, mc_bnd, bnd_mc, mc_nm, mc_wck, mc_bndX, bndX_mc, ci_0, cn_0, cl_0, cm_0, ci_1, cn_1, ci_2, cn_2, ci_3, cn_3, ci_4, cn_4, ci_5, cn_5, cl_5, cm_5, ci_6, cn_6, cl_6, cm_6, ci_7, cn_7, ci_8, cn_8, ci_9, cn_9, ci_20, cn_20, cc_20, ci_21, cn_21, cc_21, ci_22, cn_22, ci_23, cn_23, ci_24, cn_24, ci_25, cn_25, ci_26, cn_26, ci_27, cn_27]
  try rfl
set_option maxHeartbeats 8000000 in
theorem p_X11_save {C : Mem} {x1 : Int32} {M : Mem} : f_X11_save  x1 (mic C M) = mc C (f_X11_save  x1 M) := by
  unfold f_X11_save
  simp (maxSteps := 4000000) (disch := assumption) only [mc_none, mc_some, mc_ite, mc_bnd, bnd_mc, mc_nm, mc_wck, mc_bndX, bndX_mc, ci_0, cn_0, cl_0, cm_0, ci_1, cn_1, ci_2, cn_2, ci_3, cn_3, ci_4, cn_4, ci_5, cn_5, cl_5, cm_5, ci_6, cn_6, cl_6, cm_6, ci_7, cn_7, ci_8, cn_8, ci_9, cn_9, ci_20, cn_20, cc_20, ci_21, cn_21, cc_21, ci_22, cn_22, ci_23, cn_23, ci_24, cn_24, ci_25, cn_25, ci_26, cn_26, ci_27, cn_27, p_X11_requireSlot, p_X3_copyFrom]
  try rfl
set_option maxHeartbeats 8000000 in
theorem p_X11_restore {C : Mem} {x1 : Int32} {M : Mem} : f_X11_restore  x1 (mic C M) = mc C (f_X11_restore  x1 M) := by
  unfold f_X11_restore
  simp (maxSteps := 4000000) (disch := assumption) only [mc_none, mc_some, mc_ite, mc_bnd, bnd_mc, mc_nm, mc_wck, mc_bndX, bndX_mc, ci_0, cn_0, cl_0, cm_0, ci_1, cn_1, ci_2, cn_2, ci_3, cn_3, ci_4, cn_4, ci_5, cn_5, cl_5, cm_5, ci_6, cn_6, cl_6, cm_6, ci_7, cn_7, ci_8, cn_8, ci_9, cn_9, ci_20, cn_20, cc_20, ci_21, cn_21, cc_21, ci_22, cn_22, ci_23, cn_23, ci_24, cn_24, ci_25, cn_25, ci_26, cn_26, ci_27, cn_27, p_X11_requireSlot, p_X3_copyFrom]
  try rfl
