/-! ===== the converter's own cells alone: (kind, field, place) ===== -/
abbrev Cl : Type := Nat × Nat × Nat
abbrev LM : Type := (Cl → Int32) × (Cl → Int64)
def wI (L : LM) (x : Cl) (v : Int32) : LM := (fun y => if y = x then v else L.1 y, L.2)
def wL (L : LM) (x : Cl) (v : Int64) : LM := (L.1, fun y => if y = x then v else L.2 y)
def cvK (k : Nat) : Bool := Nat.ble k 2 || Nat.beq k 4 || Nat.beq k 5 || Nat.beq k 7 || Nat.beq k 8 || Nat.beq k 20 || Nat.beq k 21
/-- converter c's cells of L, all others of M -/
def putC (c : Nat) (M : Mem) (L : LM) : Mem := (fun o k => if cvK o.1 = true ∧ o.2.1 = c then L.1 (o.1, k, o.2.2) else M.1 o k, fun o k => if cvK o.1 = true ∧ o.2.1 = c then L.2 (o.1, k, o.2.2) else M.2.1 o k, M.2.2)
def viewC (c : Nat) (M : Mem) : LM := (fun x => M.1 (x.1, c, x.2.2) x.2.1, fun x => M.2.1 (x.1, c, x.2.2) x.2.1)
theorem putC_view {c : Nat} {M : Mem} : putC c M (viewC c M) = M := by
  unfold putC viewC
  refine Prod.ext (funext fun o => funext fun k => ?_) (Prod.ext (funext fun o => funext fun k => ?_) rfl)
  · dsimp only
    split
    · rename_i h; obtain ⟨o1, o2, o3⟩ := o; cases h.2; rfl
    · rfl
  · dsimp only
    split
    · rename_i h; obtain ⟨o1, o2, o3⟩ := o; cases h.2; rfl
    · rfl
theorem uI_putC {k c j f : Nat} {M : Mem} {L : LM} {x : Int32} (h : cvK k = true) : uI (putC c M L) (k, c, j) f x = putC c M (wI L (k, f, j) x) := by
  unfold uI putC wI
  refine Prod.ext (funext fun o => funext fun q => ?_) rfl
  obtain ⟨o1, o2, o3⟩ := o
  dsimp only
  by_cases h1 : o1 = k
  · by_cases h2 : o2 = c
    · by_cases h3 : o3 = j
      · subst h1 h2 h3; by_cases h4 : q = f
        · subst h4; simp [h]
        · simp [h, h4]
      · subst h1 h2; simp [h, h3]
    · subst h1; simp [h2]
  · simp [h1]
theorem uL_putC {k c j f : Nat} {M : Mem} {L : LM} {x : Int64} (h : cvK k = true) : uL (putC c M L) (k, c, j) f x = putC c M (wL L (k, f, j) x) := by
  unfold uL putC wL
  refine Prod.ext rfl (Prod.ext (funext fun o => funext fun q => ?_) rfl)
  obtain ⟨o1, o2, o3⟩ := o
  dsimp only
  by_cases h1 : o1 = k
  · by_cases h2 : o2 = c
    · by_cases h3 : o3 = j
      · subst h1 h2 h3; by_cases h4 : q = f
        · subst h4; simp [h]
        · simp [h, h4]
      · subst h1 h2; simp [h, h3]
    · subst h1; simp [h2]
  · simp [h1]
def bng {ρ β : Type} (o : Option (ρ × LM)) (k : ρ → LM → Option β) : Option β := match o with
  | none => none
  | some q => k q.1 q.2
def mg {ρ : Type} (c : Nat) (M : Mem) (o : Option (ρ × LM)) : Option (ρ × Mem) := match o with
  | none => none
  | some q => some (q.1, putC c M q.2)
theorem mg_none {ρ : Type} {c : Nat} {M : Mem} : mg (ρ := ρ) c M none = none := Eq.trans rfl rfl
theorem mg_some {ρ : Type} {c : Nat} {M : Mem} {L : LM} {r : ρ} : mg c M (some (r, L)) = some (r, putC c M L) := Eq.trans rfl rfl
theorem mg_ite {ρ : Type} {c : Nat} {M : Mem} {p : Prop} [Decidable p] {a b : Option (ρ × LM)} : mg c M (if p then a else b) = if p then mg c M a else mg c M b := by split <;> rfl
theorem mg_bng {ρ σ : Type} {c : Nat} {M : Mem} {o : Option (ρ × LM)} {k : ρ → LM → Option (σ × LM)} : mg c M (bng o k) = bng o (fun r L => mg c M (k r L)) := by cases o <;> rfl
theorem bnd_mg {ρ σ : Type} {c : Nat} {M : Mem} {o : Option (ρ × LM)} {k : ρ → Mem → Option (σ × Mem)} : bnd (mg c M o) k = bng o (fun r L => k r (putC c M L)) := by cases o <;> rfl
theorem mg_nm {α ρ : Type} {c : Nat} {M : Mem} {v : α} {k : α → Option (ρ × LM)} : mg c M (nm v k) = nm v (fun x => mg c M (k x)) := Eq.trans rfl rfl

theorem gi_0 {c j k : Nat} {M : Mem} {L : LM} : (putC c M L).1 (0, c, j) k = L.1 (0, k, j) := if_pos ⟨rfl, rfl⟩
theorem gn_0 {ρ : Type} {c j k : Nat} {M : Mem} {L : LM} {x : Int32} {f : Mem → Option (ρ × Mem)} : nm (uI (putC c M L) (0, c, j) k x) f = nm (wI L (0, k, j) x) (fun N => f (putC c M N)) := congrArg f (uI_putC rfl)
theorem gl_0 {c j k : Nat} {M : Mem} {L : LM} : (putC c M L).2.1 (0, c, j) k = L.2 (0, k, j) := if_pos ⟨rfl, rfl⟩
theorem gm_0 {ρ : Type} {c j k : Nat} {M : Mem} {L : LM} {x : Int64} {f : Mem → Option (ρ × Mem)} : nm (uL (putC c M L) (0, c, j) k x) f = nm (wL L (0, k, j) x) (fun N => f (putC c M N)) := congrArg f (uL_putC rfl)
theorem gi_1 {c j k : Nat} {M : Mem} {L : LM} : (putC c M L).1 (1, c, j) k = L.1 (1, k, j) := if_pos ⟨rfl, rfl⟩
theorem gn_1 {ρ : Type} {c j k : Nat} {M : Mem} {L : LM} {x : Int32} {f : Mem → Option (ρ × Mem)} : nm (uI (putC c M L) (1, c, j) k x) f = nm (wI L (1, k, j) x) (fun N => f (putC c M N)) := congrArg f (uI_putC rfl)
theorem gi_2 {c j k : Nat} {M : Mem} {L : LM} : (putC c M L).1 (2, c, j) k = L.1 (2, k, j) := if_pos ⟨rfl, rfl⟩
theorem gn_2 {ρ : Type} {c j k : Nat} {M : Mem} {L : LM} {x : Int32} {f : Mem → Option (ρ × Mem)} : nm (uI (putC c M L) (2, c, j) k x) f = nm (wI L (2, k, j) x) (fun N => f (putC c M N)) := congrArg f (uI_putC rfl)
theorem gi_4 {c j k : Nat} {M : Mem} {L : LM} : (putC c M L).1 (4, c, j) k = L.1 (4, k, j) := if_pos ⟨rfl, rfl⟩
theorem gn_4 {ρ : Type} {c j k : Nat} {M : Mem} {L : LM} {x : Int32} {f : Mem → Option (ρ × Mem)} : nm (uI (putC c M L) (4, c, j) k x) f = nm (wI L (4, k, j) x) (fun N => f (putC c M N)) := congrArg f (uI_putC rfl)
theorem gi_5 {c j k : Nat} {M : Mem} {L : LM} : (putC c M L).1 (5, c, j) k = L.1 (5, k, j) := if_pos ⟨rfl, rfl⟩
theorem gn_5 {ρ : Type} {c j k : Nat} {M : Mem} {L : LM} {x : Int32} {f : Mem → Option (ρ × Mem)} : nm (uI (putC c M L) (5, c, j) k x) f = nm (wI L (5, k, j) x) (fun N => f (putC c M N)) := congrArg f (uI_putC rfl)
theorem gl_5 {c j k : Nat} {M : Mem} {L : LM} : (putC c M L).2.1 (5, c, j) k = L.2 (5, k, j) := if_pos ⟨rfl, rfl⟩
theorem gm_5 {ρ : Type} {c j k : Nat} {M : Mem} {L : LM} {x : Int64} {f : Mem → Option (ρ × Mem)} : nm (uL (putC c M L) (5, c, j) k x) f = nm (wL L (5, k, j) x) (fun N => f (putC c M N)) := congrArg f (uL_putC rfl)
theorem gi_7 {c j k : Nat} {M : Mem} {L : LM} : (putC c M L).1 (7, c, j) k = L.1 (7, k, j) := if_pos ⟨rfl, rfl⟩
theorem gn_7 {ρ : Type} {c j k : Nat} {M : Mem} {L : LM} {x : Int32} {f : Mem → Option (ρ × Mem)} : nm (uI (putC c M L) (7, c, j) k x) f = nm (wI L (7, k, j) x) (fun N => f (putC c M N)) := congrArg f (uI_putC rfl)
theorem gi_8 {c j k : Nat} {M : Mem} {L : LM} : (putC c M L).1 (8, c, j) k = L.1 (8, k, j) := if_pos ⟨rfl, rfl⟩
theorem gn_8 {ρ : Type} {c j k : Nat} {M : Mem} {L : LM} {x : Int32} {f : Mem → Option (ρ × Mem)} : nm (uI (putC c M L) (8, c, j) k x) f = nm (wI L (8, k, j) x) (fun N => f (putC c M N)) := congrArg f (uI_putC rfl)
theorem gi_20 {c j k : Nat} {M : Mem} {L : LM} : (putC c M L).1 (20, c, j) k = L.1 (20, k, j) := if_pos ⟨rfl, rfl⟩
theorem gn_20 {ρ : Type} {c j k : Nat} {M : Mem} {L : LM} {x : Int32} {f : Mem → Option (ρ × Mem)} : nm (uI (putC c M L) (20, c, j) k x) f = nm (wI L (20, k, j) x) (fun N => f (putC c M N)) := congrArg f (uI_putC rfl)
theorem gi_21 {c j k : Nat} {M : Mem} {L : LM} : (putC c M L).1 (21, c, j) k = L.1 (21, k, j) := if_pos ⟨rfl, rfl⟩
theorem gn_21 {ρ : Type} {c j k : Nat} {M : Mem} {L : LM} {x : Int32} {f : Mem → Option (ρ × Mem)} : nm (uI (putC c M L) (21, c, j) k x) f = nm (wI L (21, k, j) x) (fun N => f (putC c M N)) := congrArg f (uI_putC rfl)
theorem ga_20 {c j : Nat} : (akO (20, c, j)).2 = (akO (20, 0, j)).2 := rfl
theorem ga_21 {c j : Nat} : (akO (21, c, j)).2 = (akO (21, 0, j)).2 := rfl
def g_X1_signalAt_17 (j0 : Nat) (xs0 : Int32) (L : LM) : Option (Int32 × LM) :=
  nm ((L.1 (0, 2, j0)) + ((L.1 (0, 3, j0)) * xs0)) (fun e1 => if 0 ≤ e1 then if e1 ≤ 4095 then some (e1, L) else some (4095, L) else some (0, L))
set_option maxHeartbeats 4000000 in
theorem h_X1_signalAt_17 {c : Nat} {M : Mem} {j0 : Nat} {xs0 : Int32} {L : LM} : f_X1_signalAt_17 c j0 xs0 (putC c M L) = mg c M (g_X1_signalAt_17 j0 xs0 L) := by
  unfold f_X1_signalAt_17 g_X1_signalAt_17
  simp (maxSteps := 4000000) only [mg_none, mg_some, mg_ite, mg_bng, bnd_mg, mg_nm, gi_0, gn_0, gl_0, gm_0, gi_1, gn_1, gi_2, gn_2, gi_4, gn_4, gi_5, gn_5, gl_5, gm_5, gi_7, gn_7, gi_8, gn_8, gi_20, gn_20, gi_21, gn_21, ga_20 (c := c), ga_21 (c := c)]
  try rfl
def g_X1_signalAt (j0 : Nat) (x1 : Int32) (L : LM) : Option (Int32 × LM) :=
  if (L.1 (0, 4, j0)) ≤ 0 then g_X1_signalAt_17 j0 0 L else if (L.1 (0, 4, j0)) = 0 then none else g_X1_signalAt_17 j0 (x1 - x1 / (L.1 (0, 4, j0)) * (L.1 (0, 4, j0))) L
set_option maxHeartbeats 4000000 in
theorem h_X1_signalAt {c : Nat} {M : Mem} {j0 : Nat} {x1 : Int32} {L : LM} : f_X1_signalAt c j0 x1 (putC c M L) = mg c M (g_X1_signalAt j0 x1 L) := by
  unfold f_X1_signalAt g_X1_signalAt
  simp (maxSteps := 4000000) only [mg_none, mg_some, mg_ite, mg_bng, bnd_mg, mg_nm, gi_0, gn_0, gl_0, gm_0, gi_1, gn_1, gi_2, gn_2, gi_4, gn_4, gi_5, gn_5, gl_5, gm_5, gi_7, gn_7, gi_8, gn_8, gi_20, gn_20, gi_21, gn_21, ga_20 (c := c), ga_21 (c := c), h_X1_signalAt_17]
  try rfl
def g_X1_conversionLength (j0 : Nat) (L : LM) : Option (Int32 × LM) :=
  some (((L.1 (0, 0, j0)) + 12), L)
set_option maxHeartbeats 4000000 in
theorem h_X1_conversionLength {c : Nat} {M : Mem} {j0 : Nat} {L : LM} : f_X1_conversionLength c j0 (putC c M L) = mg c M (g_X1_conversionLength j0 L) := by
  unfold f_X1_conversionLength g_X1_conversionLength
  simp (maxSteps := 4000000) only [mg_none, mg_some, mg_ite, mg_bng, bnd_mg, mg_nm, gi_0, gn_0, gl_0, gm_0, gi_1, gn_1, gi_2, gn_2, gi_4, gn_4, gi_5, gn_5, gl_5, gm_5, gi_7, gn_7, gi_8, gn_8, gi_20, gn_20, gi_21, gn_21, ga_20 (c := c), ga_21 (c := c)]
  try rfl
def g_X1_addResult_40 (j0 : Nat) (x1 : Int32) (L : LM) : Option (Unit × LM) :=
  nm (wI L (0, 5, j0) ((L.1 (0, 5, j0)) + 1)) (fun L1 => nm (wL L1 (0, 8, j0) ((L1.2 (0, 8, j0)) + (Int32.toInt64 x1))) (fun L2 => some ((), L2)))
set_option maxHeartbeats 4000000 in
theorem h_X1_addResult_40 {c : Nat} {M : Mem} {j0 : Nat} {x1 : Int32} {L : LM} : f_X1_addResult_40 c j0 x1 (putC c M L) = mg c M (g_X1_addResult_40 j0 x1 L) := by
  unfold f_X1_addResult_40 g_X1_addResult_40
  simp (maxSteps := 4000000) only [mg_none, mg_some, mg_ite, mg_bng, bnd_mg, mg_nm, gi_0, gn_0, gl_0, gm_0, gi_1, gn_1, gi_2, gn_2, gi_4, gn_4, gi_5, gn_5, gl_5, gm_5, gi_7, gn_7, gi_8, gn_8, gi_20, gn_20, gi_21, gn_21, ga_20 (c := c), ga_21 (c := c)]
  try rfl
def g_X1_addResult_35 (j0 : Nat) (x1 : Int32) (L : LM) : Option (Unit × LM) :=
  nm (wI L (0, 7, j0) x1) (fun L1 => g_X1_addResult_40 j0 x1 L1)
set_option maxHeartbeats 4000000 in
theorem h_X1_addResult_35 {c : Nat} {M : Mem} {j0 : Nat} {x1 : Int32} {L : LM} : f_X1_addResult_35 c j0 x1 (putC c M L) = mg c M (g_X1_addResult_35 j0 x1 L) := by
  unfold f_X1_addResult_35 g_X1_addResult_35
  simp (maxSteps := 4000000) only [mg_none, mg_some, mg_ite, mg_bng, bnd_mg, mg_nm, gi_0, gn_0, gl_0, gm_0, gi_1, gn_1, gi_2, gn_2, gi_4, gn_4, gi_5, gn_5, gl_5, gm_5, gi_7, gn_7, gi_8, gn_8, gi_20, gn_20, gi_21, gn_21, ga_20 (c := c), ga_21 (c := c), h_X1_addResult_40]
  try rfl
def g_X1_addResult_20 (j0 : Nat) (x1 : Int32) (L : LM) : Option (Unit × LM) :=
  if (L.1 (0, 5, j0)) = 0 then g_X1_addResult_35 j0 x1 L else if x1 ≤ (L.1 (0, 7, j0)) then g_X1_addResult_40 j0 x1 L else g_X1_addResult_35 j0 x1 L
set_option maxHeartbeats 4000000 in
theorem h_X1_addResult_20 {c : Nat} {M : Mem} {j0 : Nat} {x1 : Int32} {L : LM} : f_X1_addResult_20 c j0 x1 (putC c M L) = mg c M (g_X1_addResult_20 j0 x1 L) := by
  unfold f_X1_addResult_20 g_X1_addResult_20
  simp (maxSteps := 4000000) only [mg_none, mg_some, mg_ite, mg_bng, bnd_mg, mg_nm, gi_0, gn_0, gl_0, gm_0, gi_1, gn_1, gi_2, gn_2, gi_4, gn_4, gi_5, gn_5, gl_5, gm_5, gi_7, gn_7, gi_8, gn_8, gi_20, gn_20, gi_21, gn_21, ga_20 (c := c), ga_21 (c := c), h_X1_addResult_35, h_X1_addResult_40]
  try rfl
def g_X1_addResult_15 (j0 : Nat) (x1 : Int32) (L : LM) : Option (Unit × LM) :=
  nm (wI L (0, 6, j0) x1) (fun L1 => g_X1_addResult_20 j0 x1 L1)
set_option maxHeartbeats 4000000 in
theorem h_X1_addResult_15 {c : Nat} {M : Mem} {j0 : Nat} {x1 : Int32} {L : LM} : f_X1_addResult_15 c j0 x1 (putC c M L) = mg c M (g_X1_addResult_15 j0 x1 L) := by
  unfold f_X1_addResult_15 g_X1_addResult_15
  simp (maxSteps := 4000000) only [mg_none, mg_some, mg_ite, mg_bng, bnd_mg, mg_nm, gi_0, gn_0, gl_0, gm_0, gi_1, gn_1, gi_2, gn_2, gi_4, gn_4, gi_5, gn_5, gl_5, gm_5, gi_7, gn_7, gi_8, gn_8, gi_20, gn_20, gi_21, gn_21, ga_20 (c := c), ga_21 (c := c), h_X1_addResult_20]
  try rfl
def g_X1_addResult (j0 : Nat) (x1 : Int32) (L : LM) : Option (Unit × LM) :=
  if (L.1 (0, 5, j0)) = 0 then g_X1_addResult_15 j0 x1 L else if (L.1 (0, 6, j0)) ≤ x1 then g_X1_addResult_20 j0 x1 L else g_X1_addResult_15 j0 x1 L
set_option maxHeartbeats 4000000 in
theorem h_X1_addResult {c : Nat} {M : Mem} {j0 : Nat} {x1 : Int32} {L : LM} : f_X1_addResult c j0 x1 (putC c M L) = mg c M (g_X1_addResult j0 x1 L) := by
  unfold f_X1_addResult g_X1_addResult
  simp (maxSteps := 4000000) only [mg_none, mg_some, mg_ite, mg_bng, bnd_mg, mg_nm, gi_0, gn_0, gl_0, gm_0, gi_1, gn_1, gi_2, gn_2, gi_4, gn_4, gi_5, gn_5, gl_5, gm_5, gi_7, gn_7, gi_8, gn_8, gi_20, gn_20, gi_21, gn_21, ga_20 (c := c), ga_21 (c := c), h_X1_addResult_15, h_X1_addResult_20]
  try rfl
def g_X5_put (j0 : Nat) (x1 : Int32) (x2 : Int32) (x3 : Int32) (x4 : Int32) (x5 : Int32) (L : LM) : Option (Unit × LM) :=
  nm ((x1 &&& (L.1 (4, 1, j0))) * 4) (fun e1 => if bad e1 (akO (21, 0, j0)).2 then none else nm (wI L (21, (Int32.toNatClampNeg e1), j0) x2) (fun L2 => if bad (e1 + 1) (akO (21, 0, j0)).2 then none else nm (wI L2 (21, (Int32.toNatClampNeg (e1 + 1)), j0) x3) (fun L3 => if bad (e1 + 2) (akO (21, 0, j0)).2 then none else nm (wI L3 (21, (Int32.toNatClampNeg (e1 + 2)), j0) x4) (fun L4 => if bad (e1 + 3) (akO (21, 0, j0)).2 then none else nm (wI L4 (21, (Int32.toNatClampNeg (e1 + 3)), j0) x5) (fun L5 => some ((), L5))))))
set_option maxHeartbeats 4000000 in
theorem h_X5_put {c : Nat} {M : Mem} {j0 : Nat} {x1 : Int32} {x2 : Int32} {x3 : Int32} {x4 : Int32} {x5 : Int32} {L : LM} : f_X5_put c j0 x1 x2 x3 x4 x5 (putC c M L) = mg c M (g_X5_put j0 x1 x2 x3 x4 x5 L) := by
  unfold f_X5_put g_X5_put
  simp (maxSteps := 4000000) only [mg_none, mg_some, mg_ite, mg_bng, bnd_mg, mg_nm, gi_0, gn_0, gl_0, gm_0, gi_1, gn_1, gi_2, gn_2, gi_4, gn_4, gi_5, gn_5, gl_5, gm_5, gi_7, gn_7, gi_8, gn_8, gi_20, gn_20, gi_21, gn_21, ga_20 (c := c), ga_21 (c := c)]
  try rfl
def g_X5_removeOldest (j0 : Nat) (L : LM) : Option (Unit × LM) :=
  nm (wI L (4, 4, j0) (((L.1 (4, 4, j0)) + 1) &&& (L.1 (4, 1, j0)))) (fun L1 => nm (wI L1 (4, 5, j0) ((L1.1 (4, 5, j0)) - 1)) (fun L2 => some ((), L2)))
set_option maxHeartbeats 4000000 in
theorem h_X5_removeOldest {c : Nat} {M : Mem} {j0 : Nat} {L : LM} : f_X5_removeOldest c j0 (putC c M L) = mg c M (g_X5_removeOldest j0 L) := by
  unfold f_X5_removeOldest g_X5_removeOldest
  simp (maxSteps := 4000000) only [mg_none, mg_some, mg_ite, mg_bng, bnd_mg, mg_nm, gi_0, gn_0, gl_0, gm_0, gi_1, gn_1, gi_2, gn_2, gi_4, gn_4, gi_5, gn_5, gl_5, gm_5, gi_7, gn_7, gi_8, gn_8, gi_20, gn_20, gi_21, gn_21, ga_20 (c := c), ga_21 (c := c)]
  try rfl
def g_X5_add_33 (j0 : Nat) (x1 : Int32) (x2 : Int32) (x3 : Int32) (x4 : Int32) (L : LM) : Option (Unit × LM) :=
  bng (g_X5_put j0 ((L.1 (4, 4, j0)) + (L.1 (4, 5, j0))) x1 x2 x3 x4 L) (fun r1 L2 => nm (wI L2 (4, 5, j0) ((L2.1 (4, 5, j0)) + 1)) (fun L4 => some ((), L4)))
set_option maxHeartbeats 4000000 in
theorem h_X5_add_33 {c : Nat} {M : Mem} {j0 : Nat} {x1 : Int32} {x2 : Int32} {x3 : Int32} {x4 : Int32} {L : LM} : f_X5_add_33 c j0 x1 x2 x3 x4 (putC c M L) = mg c M (g_X5_add_33 j0 x1 x2 x3 x4 L) := by
  unfold f_X5_add_33 g_X5_add_33
  simp (maxSteps := 4000000) only [mg_none, mg_some, mg_ite, mg_bng, bnd_mg, mg_nm, gi_0, gn_0, gl_0, gm_0, gi_1, gn_1, gi_2, gn_2, gi_4, gn_4, gi_5, gn_5, gl_5, gm_5, gi_7, gn_7, gi_8, gn_8, gi_20, gn_20, gi_21, gn_21, ga_20 (c := c), ga_21 (c := c), h_X5_put]
  try rfl
def g_X5_add (j0 : Nat) (x1 : Int32) (x2 : Int32) (x3 : Int32) (x4 : Int32) (L : LM) : Option (Unit × LM) :=
  if (L.1 (4, 5, j0)) < (L.1 (4, 2, j0)) then g_X5_add_33 j0 x1 x2 x3 x4 L else nm (wI L (4, 6, j0) ((L.1 (4, 6, j0)) + 1)) (fun L1 => if (L1.1 (4, 3, j0)) = 0 then some ((), L1) else bng (g_X5_removeOldest j0 L1) (fun r2 L3 => g_X5_add_33 j0 x1 x2 x3 x4 L3))
set_option maxHeartbeats 4000000 in
theorem h_X5_add {c : Nat} {M : Mem} {j0 : Nat} {x1 : Int32} {x2 : Int32} {x3 : Int32} {x4 : Int32} {L : LM} : f_X5_add c j0 x1 x2 x3 x4 (putC c M L) = mg c M (g_X5_add j0 x1 x2 x3 x4 L) := by
  unfold f_X5_add g_X5_add
  simp (maxSteps := 4000000) only [mg_none, mg_some, mg_ite, mg_bng, bnd_mg, mg_nm, gi_0, gn_0, gl_0, gm_0, gi_1, gn_1, gi_2, gn_2, gi_4, gn_4, gi_5, gn_5, gl_5, gm_5, gi_7, gn_7, gi_8, gn_8, gi_20, gn_20, gi_21, gn_21, ga_20 (c := c), ga_21 (c := c), h_X5_add_33, h_X5_removeOldest]
  try rfl
def g_X5_number (j0 : Nat) (x1 : Int32) (x2 : Int32) (L : LM) : Option (Int32 × LM) :=
  if bad (((x1 &&& (L.1 (4, 1, j0))) * 4) + x2) (akO (21, 0, j0)).2 then none else some ((L.1 (21, (Int32.toNatClampNeg (((x1 &&& (L.1 (4, 1, j0))) * 4) + x2)), j0)), L)
set_option maxHeartbeats 4000000 in
theorem h_X5_number {c : Nat} {M : Mem} {j0 : Nat} {x1 : Int32} {x2 : Int32} {L : LM} : f_X5_number c j0 x1 x2 (putC c M L) = mg c M (g_X5_number j0 x1 x2 L) := by
  unfold f_X5_number g_X5_number
  simp (maxSteps := 4000000) only [mg_none, mg_some, mg_ite, mg_bng, bnd_mg, mg_nm, gi_0, gn_0, gl_0, gm_0, gi_1, gn_1, gi_2, gn_2, gi_4, gn_4, gi_5, gn_5, gl_5, gm_5, gi_7, gn_7, gi_8, gn_8, gi_20, gn_20, gi_21, gn_21, ga_20 (c := c), ga_21 (c := c)]
  try rfl
def g_X5_oldestNumber (j0 : Nat) (x1 : Int32) (L : LM) : Option (Int32 × LM) :=
  bng (g_X5_number j0 (L.1 (4, 4, j0)) x1 L) (fun r1 L2 => some (r1, L2))
set_option maxHeartbeats 4000000 in
theorem h_X5_oldestNumber {c : Nat} {M : Mem} {j0 : Nat} {x1 : Int32} {L : LM} : f_X5_oldestNumber c j0 x1 (putC c M L) = mg c M (g_X5_oldestNumber j0 x1 L) := by
  unfold f_X5_oldestNumber g_X5_oldestNumber
  simp (maxSteps := 4000000) only [mg_none, mg_some, mg_ite, mg_bng, bnd_mg, mg_nm, gi_0, gn_0, gl_0, gm_0, gi_1, gn_1, gi_2, gn_2, gi_4, gn_4, gi_5, gn_5, gl_5, gm_5, gi_7, gn_7, gi_8, gn_8, gi_20, gn_20, gi_21, gn_21, ga_20 (c := c), ga_21 (c := c), h_X5_number]
  try rfl
def g_X6_isReady_18  (L : LM) : Option (Int32 × LM) :=
  some (0, L)
set_option maxHeartbeats 4000000 in
theorem h_X6_isReady_18 {c : Nat} {M : Mem} {L : LM} : f_X6_isReady_18  (putC c M L) = mg c M (g_X6_isReady_18  L) := by
  unfold f_X6_isReady_18 g_X6_isReady_18
  simp (maxSteps := 4000000) only [mg_none, mg_some, mg_ite, mg_bng, bnd_mg, mg_nm, gi_0, gn_0, gl_0, gm_0, gi_1, gn_1, gi_2, gn_2, gi_4, gn_4, gi_5, gn_5, gl_5, gm_5, gi_7, gn_7, gi_8, gn_8, gi_20, gn_20, gi_21, gn_21, ga_20 (c := c), ga_21 (c := c)]
  try rfl
def g_X6_isReady (j0 : Nat) (L : LM) : Option (Int32 × LM) :=
  if (L.1 (5, 1, j0)) ≤ 0 then g_X6_isReady_18 L else if (L.1 (5, 3, j0)) = 0 then some (1, L) else g_X6_isReady_18 L
set_option maxHeartbeats 4000000 in
theorem h_X6_isReady {c : Nat} {M : Mem} {j0 : Nat} {L : LM} : f_X6_isReady c j0 (putC c M L) = mg c M (g_X6_isReady j0 L) := by
  unfold f_X6_isReady g_X6_isReady
  simp (maxSteps := 4000000) only [mg_none, mg_some, mg_ite, mg_bng, bnd_mg, mg_nm, gi_0, gn_0, gl_0, gm_0, gi_1, gn_1, gi_2, gn_2, gi_4, gn_4, gi_5, gn_5, gl_5, gm_5, gi_7, gn_7, gi_8, gn_8, gi_20, gn_20, gi_21, gn_21, ga_20 (c := c), ga_21 (c := c), h_X6_isReady_18]
  try rfl
def g_X6_beginPass_28 (j0 : Nat) (xs0 : Int32) (L : LM) : Option (Unit × LM) :=
  if xs0 = 0 then nm (wI L (5, 5, j0) (L.1 (5, 1, j0))) (fun L1 => some ((), L1)) else nm (wI L (5, 5, j0) ((L.1 (5, 4, j0)) + (L.1 (5, 2, j0)))) (fun L2 => some ((), L2))
set_option maxHeartbeats 4000000 in
theorem h_X6_beginPass_28 {c : Nat} {M : Mem} {j0 : Nat} {xs0 : Int32} {L : LM} : f_X6_beginPass_28 c j0 xs0 (putC c M L) = mg c M (g_X6_beginPass_28 j0 xs0 L) := by
  unfold f_X6_beginPass_28 g_X6_beginPass_28
  simp (maxSteps := 4000000) only [mg_none, mg_some, mg_ite, mg_bng, bnd_mg, mg_nm, gi_0, gn_0, gl_0, gm_0, gi_1, gn_1, gi_2, gn_2, gi_4, gn_4, gi_5, gn_5, gl_5, gm_5, gi_7, gn_7, gi_8, gn_8, gi_20, gn_20, gi_21, gn_21, ga_20 (c := c), ga_21 (c := c)]
  try rfl
def g_X6_beginPass_27 (j0 : Nat) (L : LM) : Option (Unit × LM) :=
  g_X6_beginPass_28 j0 0 L
set_option maxHeartbeats 4000000 in
theorem h_X6_beginPass_27 {c : Nat} {M : Mem} {j0 : Nat} {L : LM} : f_X6_beginPass_27 c j0 (putC c M L) = mg c M (g_X6_beginPass_27 j0 L) := by
  unfold f_X6_beginPass_27 g_X6_beginPass_27
  simp (maxSteps := 4000000) only [mg_none, mg_some, mg_ite, mg_bng, bnd_mg, mg_nm, gi_0, gn_0, gl_0, gm_0, gi_1, gn_1, gi_2, gn_2, gi_4, gn_4, gi_5, gn_5, gl_5, gm_5, gi_7, gn_7, gi_8, gn_8, gi_20, gn_20, gi_21, gn_21, ga_20 (c := c), ga_21 (c := c), h_X6_beginPass_28]
  try rfl
def g_X6_beginPass (j0 : Nat) (L : LM) : Option (Unit × LM) :=
  if (L.1 (5, 2, j0)) ≤ 0 then g_X6_beginPass_27 j0 L else if (L.1 (5, 1, j0)) ≤ ((L.1 (5, 4, j0)) + (L.1 (5, 2, j0))) then g_X6_beginPass_27 j0 L else g_X6_beginPass_28 j0 1 L
set_option maxHeartbeats 4000000 in
theorem h_X6_beginPass {c : Nat} {M : Mem} {j0 : Nat} {L : LM} : f_X6_beginPass c j0 (putC c M L) = mg c M (g_X6_beginPass j0 L) := by
  unfold f_X6_beginPass g_X6_beginPass
  simp (maxSteps := 4000000) only [mg_none, mg_some, mg_ite, mg_bng, bnd_mg, mg_nm, gi_0, gn_0, gl_0, gm_0, gi_1, gn_1, gi_2, gn_2, gi_4, gn_4, gi_5, gn_5, gl_5, gm_5, gi_7, gn_7, gi_8, gn_8, gi_20, gn_20, gi_21, gn_21, ga_20 (c := c), ga_21 (c := c), h_X6_beginPass_27, h_X6_beginPass_28]
  try rfl
def g_X6_becomeBusy (j0 : Nat) (x1 : Int32) (x2 : Int32) (L : LM) : Option (Unit × LM) :=
  nm (wI L (5, 3, j0) 1) (fun L1 => nm (wI L1 (5, 6, j0) x1) (fun L2 => nm (wI L2 (5, 7, j0) x2) (fun L3 => bng (g_X6_beginPass j0 L3) (fun r4 L5 => some ((), L5)))))
set_option maxHeartbeats 4000000 in
theorem h_X6_becomeBusy {c : Nat} {M : Mem} {j0 : Nat} {x1 : Int32} {x2 : Int32} {L : LM} : f_X6_becomeBusy c j0 x1 x2 (putC c M L) = mg c M (g_X6_becomeBusy j0 x1 x2 L) := by
  unfold f_X6_becomeBusy g_X6_becomeBusy
  simp (maxSteps := 4000000) only [mg_none, mg_some, mg_ite, mg_bng, bnd_mg, mg_nm, gi_0, gn_0, gl_0, gm_0, gi_1, gn_1, gi_2, gn_2, gi_4, gn_4, gi_5, gn_5, gl_5, gm_5, gi_7, gn_7, gi_8, gn_8, gi_20, gn_20, gi_21, gn_21, ga_20 (c := c), ga_21 (c := c), h_X6_beginPass]
  try rfl
def g_X6_becomeIdle (j0 : Nat) (L : LM) : Option (Unit × LM) :=
  nm (wI L (5, 3, j0) 0) (fun L1 => nm (wI L1 (5, 6, j0) (-1)) (fun L2 => nm (wI L2 (5, 7, j0) (-1)) (fun L3 => some ((), L3))))
set_option maxHeartbeats 4000000 in
theorem h_X6_becomeIdle {c : Nat} {M : Mem} {j0 : Nat} {L : LM} : f_X6_becomeIdle c j0 (putC c M L) = mg c M (g_X6_becomeIdle j0 L) := by
  unfold f_X6_becomeIdle g_X6_becomeIdle
  simp (maxSteps := 4000000) only [mg_none, mg_some, mg_ite, mg_bng, bnd_mg, mg_nm, gi_0, gn_0, gl_0, gm_0, gi_1, gn_1, gi_2, gn_2, gi_4, gn_4, gi_5, gn_5, gl_5, gm_5, gi_7, gn_7, gi_8, gn_8, gi_20, gn_20, gi_21, gn_21, ga_20 (c := c), ga_21 (c := c)]
  try rfl
def g_X6_nextChannel_31  (L : LM) : Option (Int32 × LM) :=
  some (0, L)
set_option maxHeartbeats 4000000 in
theorem h_X6_nextChannel_31 {c : Nat} {M : Mem} {L : LM} : f_X6_nextChannel_31  (putC c M L) = mg c M (g_X6_nextChannel_31  L) := by
  unfold f_X6_nextChannel_31 g_X6_nextChannel_31
  simp (maxSteps := 4000000) only [mg_none, mg_some, mg_ite, mg_bng, bnd_mg, mg_nm, gi_0, gn_0, gl_0, gm_0, gi_1, gn_1, gi_2, gn_2, gi_4, gn_4, gi_5, gn_5, gl_5, gm_5, gi_7, gn_7, gi_8, gn_8, gi_20, gn_20, gi_21, gn_21, ga_20 (c := c), ga_21 (c := c)]
  try rfl
def g_X6_nextChannel (j0 : Nat) (L : LM) : Option (Int32 × LM) :=
  if (L.1 (5, 4, j0)) < 0 then g_X6_nextChannel_31 L else if (Int32.ofNat (akO (20, 0, j0)).2) ≤ (L.1 (5, 4, j0)) then g_X6_nextChannel_31 L else if bad (L.1 (5, 4, j0)) (akO (20, 0, j0)).2 then none else some ((L.1 (20, (Int32.toNatClampNeg (L.1 (5, 4, j0))), j0)), L)
set_option maxHeartbeats 4000000 in
theorem h_X6_nextChannel {c : Nat} {M : Mem} {j0 : Nat} {L : LM} : f_X6_nextChannel c j0 (putC c M L) = mg c M (g_X6_nextChannel j0 L) := by
  unfold f_X6_nextChannel g_X6_nextChannel
  simp (maxSteps := 4000000) only [mg_none, mg_some, mg_ite, mg_bng, bnd_mg, mg_nm, gi_0, gn_0, gl_0, gm_0, gi_1, gn_1, gi_2, gn_2, gi_4, gn_4, gi_5, gn_5, gl_5, gm_5, gi_7, gn_7, gi_8, gn_8, gi_20, gn_20, gi_21, gn_21, ga_20 (c := c), ga_21 (c := c), h_X6_nextChannel_31]
  try rfl
def g_X6_forgetConversions (j0 : Nat) (L : LM) : Option (Unit × LM) :=
  nm (wI L (5, 10, j0) 0) (fun L1 => nm (wI L1 (5, 11, j0) 0) (fun L2 => some ((), L2)))
set_option maxHeartbeats 4000000 in
theorem h_X6_forgetConversions {c : Nat} {M : Mem} {j0 : Nat} {L : LM} : f_X6_forgetConversions c j0 (putC c M L) = mg c M (g_X6_forgetConversions j0 L) := by
  unfold f_X6_forgetConversions g_X6_forgetConversions
  simp (maxSteps := 4000000) only [mg_none, mg_some, mg_ite, mg_bng, bnd_mg, mg_nm, gi_0, gn_0, gl_0, gm_0, gi_1, gn_1, gi_2, gn_2, gi_4, gn_4, gi_5, gn_5, gl_5, gm_5, gi_7, gn_7, gi_8, gn_8, gi_20, gn_20, gi_21, gn_21, ga_20 (c := c), ga_21 (c := c)]
  try rfl
def g_X8_isDue_33  (L : LM) : Option (Int32 × LM) :=
  some (0, L)
set_option maxHeartbeats 4000000 in
theorem h_X8_isDue_33 {c : Nat} {M : Mem} {L : LM} : f_X8_isDue_33  (putC c M L) = mg c M (g_X8_isDue_33  L) := by
  unfold f_X8_isDue_33 g_X8_isDue_33
  simp (maxSteps := 4000000) only [mg_none, mg_some, mg_ite, mg_bng, bnd_mg, mg_nm, gi_0, gn_0, gl_0, gm_0, gi_1, gn_1, gi_2, gn_2, gi_4, gn_4, gi_5, gn_5, gl_5, gm_5, gi_7, gn_7, gi_8, gn_8, gi_20, gn_20, gi_21, gn_21, ga_20 (c := c), ga_21 (c := c)]
  try rfl
def g_X8_isDue (j0 : Nat) (x1 : Int32) (L : LM) : Option (Int32 × LM) :=
  if (L.1 (7, 1, j0)) ≤ 0 then g_X8_isDue_33 L else if x1 < (L.1 (7, 2, j0)) then g_X8_isDue_33 L else if (L.1 (7, 1, j0)) = 0 then none else if ((x1 - (L.1 (7, 2, j0))) - (x1 - (L.1 (7, 2, j0))) / (L.1 (7, 1, j0)) * (L.1 (7, 1, j0))) = 0 then some (1, L) else g_X8_isDue_33 L
set_option maxHeartbeats 4000000 in
theorem h_X8_isDue {c : Nat} {M : Mem} {j0 : Nat} {x1 : Int32} {L : LM} : f_X8_isDue c j0 x1 (putC c M L) = mg c M (g_X8_isDue j0 x1 L) := by
  unfold f_X8_isDue g_X8_isDue
  simp (maxSteps := 4000000) only [mg_none, mg_some, mg_ite, mg_bng, bnd_mg, mg_nm, gi_0, gn_0, gl_0, gm_0, gi_1, gn_1, gi_2, gn_2, gi_4, gn_4, gi_5, gn_5, gl_5, gm_5, gi_7, gn_7, gi_8, gn_8, gi_20, gn_20, gi_21, gn_21, ga_20 (c := c), ga_21 (c := c), h_X8_isDue_33]
  try rfl
def g_X9_look_41 (j0 : Nat) (x1 : Int32) (x2 : Int32) (x3 : Int32) (xs0 : Int32) (js1 : Nat) (L : LM) : Option (Unit × LM) :=
  nm (wI L (8, 5, js1) xs0) (fun L1 => if (L1.1 (8, 5, j0)) < (L1.1 (8, 3, j0)) then some ((), L1) else if (L1.1 (8, 6, j0)) = 0 then nm (wI L1 (8, 6, j0) 1) (fun L2 => nm (wI L2 (8, 7, j0) x3) (fun L3 => nm (wI L3 (8, 8, j0) x1) (fun L4 => nm (wI L4 (8, 9, j0) x2) (fun L5 => some ((), L5))))) else some ((), L1))
set_option maxHeartbeats 4000000 in
theorem h_X9_look_41 {c : Nat} {M : Mem} {j0 : Nat} {x1 : Int32} {x2 : Int32} {x3 : Int32} {xs0 : Int32} {js1 : Nat} {L : LM} : f_X9_look_41 c j0 x1 x2 x3 xs0 c js1 (putC c M L) = mg c M (g_X9_look_41 j0 x1 x2 x3 xs0 js1 L) := by
  unfold f_X9_look_41 g_X9_look_41
  simp (maxSteps := 4000000) only [mg_none, mg_some, mg_ite, mg_bng, bnd_mg, mg_nm, gi_0, gn_0, gl_0, gm_0, gi_1, gn_1, gi_2, gn_2, gi_4, gn_4, gi_5, gn_5, gl_5, gm_5, gi_7, gn_7, gi_8, gn_8, gi_20, gn_20, gi_21, gn_21, ga_20 (c := c), ga_21 (c := c)]
  try rfl
def g_X9_look_31 (j0 : Nat) (x1 : Int32) (x2 : Int32) (x3 : Int32) (js0 : Nat) (L : LM) : Option (Unit × LM) :=
  g_X9_look_41 j0 x1 x2 x3 ((L.1 (8, 5, j0)) + 1) js0 L
set_option maxHeartbeats 4000000 in
theorem h_X9_look_31 {c : Nat} {M : Mem} {j0 : Nat} {x1 : Int32} {x2 : Int32} {x3 : Int32} {js0 : Nat} {L : LM} : f_X9_look_31 c j0 x1 x2 x3 c js0 (putC c M L) = mg c M (g_X9_look_31 j0 x1 x2 x3 js0 L) := by
  unfold f_X9_look_31 g_X9_look_31
  simp (maxSteps := 4000000) only [mg_none, mg_some, mg_ite, mg_bng, bnd_mg, mg_nm, gi_0, gn_0, gl_0, gm_0, gi_1, gn_1, gi_2, gn_2, gi_4, gn_4, gi_5, gn_5, gl_5, gm_5, gi_7, gn_7, gi_8, gn_8, gi_20, gn_20, gi_21, gn_21, ga_20 (c := c), ga_21 (c := c), h_X9_look_41]
  try rfl
def g_X9_look (j0 : Nat) (x1 : Int32) (x2 : Int32) (x3 : Int32) (x4 : Int32) (L : LM) : Option (Unit × LM) :=
  if (((L.1 (8, 4, j0)) >>> (x1 &&& 31)) &&& 1) = 0 then some ((), L) else if x4 < (L.1 (8, 1, j0)) then g_X9_look_31 j0 x1 x2 x3 j0 L else if x4 ≤ (L.1 (8, 2, j0)) then g_X9_look_41 j0 x1 x2 x3 0 j0 L else g_X9_look_31 j0 x1 x2 x3 j0 L
set_option maxHeartbeats 4000000 in
theorem h_X9_look {c : Nat} {M : Mem} {j0 : Nat} {x1 : Int32} {x2 : Int32} {x3 : Int32} {x4 : Int32} {L : LM} : f_X9_look c j0 x1 x2 x3 x4 (putC c M L) = mg c M (g_X9_look j0 x1 x2 x3 x4 L) := by
  unfold f_X9_look g_X9_look
  simp (maxSteps := 4000000) only [mg_none, mg_some, mg_ite, mg_bng, bnd_mg, mg_nm, gi_0, gn_0, gl_0, gm_0, gi_1, gn_1, gi_2, gn_2, gi_4, gn_4, gi_5, gn_5, gl_5, gm_5, gi_7, gn_7, gi_8, gn_8, gi_20, gn_20, gi_21, gn_21, ga_20 (c := c), ga_21 (c := c), h_X9_look_31, h_X9_look_41]
  try rfl
def g_X9_calmDown (j0 : Nat) (L : LM) : Option (Int32 × LM) :=
  nm (L.1 (8, 6, j0)) (fun e1 => nm (wI L (8, 6, j0) 0) (fun L2 => nm (wI L2 (8, 5, j0) 0) (fun L3 => nm (wI L3 (8, 7, j0) (-1)) (fun L4 => nm (wI L4 (8, 8, j0) (-1)) (fun L5 => nm (wI L5 (8, 9, j0) (-1)) (fun L6 => if ¬ (e1 = 0 ∨ e1 = 1) then none else some (e1, L6)))))))
set_option maxHeartbeats 4000000 in
theorem h_X9_calmDown {c : Nat} {M : Mem} {j0 : Nat} {L : LM} : f_X9_calmDown c j0 (putC c M L) = mg c M (g_X9_calmDown j0 L) := by
  unfold f_X9_calmDown g_X9_calmDown
  simp (maxSteps := 4000000) only [mg_none, mg_some, mg_ite, mg_bng, bnd_mg, mg_nm, gi_0, gn_0, gl_0, gm_0, gi_1, gn_1, gi_2, gn_2, gi_4, gn_4, gi_5, gn_5, gl_5, gm_5, gi_7, gn_7, gi_8, gn_8, gi_20, gn_20, gi_21, gn_21, ga_20 (c := c), ga_21 (c := c)]
  try rfl
def g_X3_sequenceOf (x1 : Int32) (L : LM) : Option (Nat × LM) :=
  if x1 = 2 then some (1, L) else some (0, L)
theorem h_X3_sequenceOf {ρ : Type} {c : Nat} {x1 : Int32} {M : Mem} {L : LM} {k : Nat × Nat → Mem → Option (ρ × Mem)} : bnd (f_X3_sequenceOf c x1 (putC c M L)) k = bng (g_X3_sequenceOf x1 L) (fun r L2 => k (c, r) (putC c M L2)) := by
  unfold f_X3_sequenceOf g_X3_sequenceOf
  split <;> rfl
def g_X3_resultCount  (L : LM) : Option (Int32 × LM) :=
  some (((L.1 (5, 8, 0)) + (L.1 (5, 8, 1))), L)
set_option maxHeartbeats 4000000 in
theorem h_X3_resultCount {c : Nat} {M : Mem} {L : LM} : f_X3_resultCount c (putC c M L) = mg c M (g_X3_resultCount  L) := by
  unfold f_X3_resultCount g_X3_resultCount
  simp (maxSteps := 4000000) only [mg_none, mg_some, mg_ite, mg_bng, bnd_mg, mg_nm, gi_0, gn_0, gl_0, gm_0, gi_1, gn_1, gi_2, gn_2, gi_4, gn_4, gi_5, gn_5, gl_5, gm_5, gi_7, gn_7, gi_8, gn_8, gi_20, gn_20, gi_21, gn_21, ga_20 (c := c), ga_21 (c := c)]
  try rfl
def g_X3_breakOffRegular (x1 : Int32) (L : LM) : Option (Unit × LM) :=
  if (L.1 (1, 0, 0)) = 1 then nm (wI L (1, 0, 0) 0) (fun L1 => nm (wI L1 (1, 5, 0) ((L1.1 (1, 5, 0)) + 1)) (fun L2 => if x1 = 0 then bng (g_X6_forgetConversions 0 L2) (fun r3 L4 => some ((), L4)) else some ((), L2))) else some ((), L)
set_option maxHeartbeats 4000000 in
theorem h_X3_breakOffRegular {c : Nat} {M : Mem} {x1 : Int32} {L : LM} : f_X3_breakOffRegular c x1 (putC c M L) = mg c M (g_X3_breakOffRegular x1 L) := by
  unfold f_X3_breakOffRegular g_X3_breakOffRegular
  simp (maxSteps := 4000000) only [mg_none, mg_some, mg_ite, mg_bng, bnd_mg, mg_nm, gi_0, gn_0, gl_0, gm_0, gi_1, gn_1, gi_2, gn_2, gi_4, gn_4, gi_5, gn_5, gl_5, gm_5, gi_7, gn_7, gi_8, gn_8, gi_20, gn_20, gi_21, gn_21, ga_20 (c := c), ga_21 (c := c), h_X6_forgetConversions]
  try rfl
def g_X3_startSequence (x1 : Int32) (x2 : Int32) (L : LM) : Option (Unit × LM) :=
  bng (g_X3_sequenceOf x1 L) (fun r1 L2 => bng (g_X6_becomeBusy r1 x2 (L2.1 (2, 15, 0)) L2) (fun r4 L5 => if x1 = 2 then bng (g_X3_breakOffRegular (L5.1 (2, 11, 0)) L5) (fun r7 L8 => some ((), L8)) else some ((), L5)))
set_option maxHeartbeats 4000000 in
theorem h_X3_startSequence {c : Nat} {M : Mem} {x1 : Int32} {x2 : Int32} {L : LM} : f_X3_startSequence c x1 x2 (putC c M L) = mg c M (g_X3_startSequence x1 x2 L) := by
  unfold f_X3_startSequence g_X3_startSequence
  simp (maxSteps := 4000000) only [mg_none, mg_some, mg_ite, mg_bng, bnd_mg, mg_nm, gi_0, gn_0, gl_0, gm_0, gi_1, gn_1, gi_2, gn_2, gi_4, gn_4, gi_5, gn_5, gl_5, gm_5, gi_7, gn_7, gi_8, gn_8, gi_20, gn_20, gi_21, gn_21, ga_20 (c := c), ga_21 (c := c), h_X3_breakOffRegular, h_X3_sequenceOf, h_X6_becomeBusy]
  try rfl
def g_X3_endPass_89  (L : LM) : Option (Unit × LM) :=
  if (L.1 (2, 9, 0)) = 0 then bng (g_X6_becomeIdle 0 L) (fun r1 L2 => some ((), L2)) else bng (g_X6_beginPass 0 L) (fun r4 L5 => some ((), L5))
set_option maxHeartbeats 4000000 in
theorem h_X3_endPass_89 {c : Nat} {M : Mem} {L : LM} : f_X3_endPass_89 c (putC c M L) = mg c M (g_X3_endPass_89  L) := by
  unfold f_X3_endPass_89 g_X3_endPass_89
  simp (maxSteps := 4000000) only [mg_none, mg_some, mg_ite, mg_bng, bnd_mg, mg_nm, gi_0, gn_0, gl_0, gm_0, gi_1, gn_1, gi_2, gn_2, gi_4, gn_4, gi_5, gn_5, gl_5, gm_5, gi_7, gn_7, gi_8, gn_8, gi_20, gn_20, gi_21, gn_21, ga_20 (c := c), ga_21 (c := c), h_X6_becomeIdle, h_X6_beginPass]
  try rfl
def g_X3_endPass_60  (L : LM) : Option (Unit × LM) :=
  if (L.1 (2, 10, 0)) = 0 then g_X3_endPass_89 L else bng (g_X6_isReady 1 L) (fun r1 L2 => if r1 = 0 then g_X3_endPass_89 L2 else bng (g_X3_startSequence 2 (L2.1 (5, 6, 0)) L2) (fun r4 L5 => g_X3_endPass_89 L5))
set_option maxHeartbeats 4000000 in
theorem h_X3_endPass_60 {c : Nat} {M : Mem} {L : LM} : f_X3_endPass_60 c (putC c M L) = mg c M (g_X3_endPass_60  L) := by
  unfold f_X3_endPass_60 g_X3_endPass_60
  simp (maxSteps := 4000000) only [mg_none, mg_some, mg_ite, mg_bng, bnd_mg, mg_nm, gi_0, gn_0, gl_0, gm_0, gi_1, gn_1, gi_2, gn_2, gi_4, gn_4, gi_5, gn_5, gl_5, gm_5, gi_7, gn_7, gi_8, gn_8, gi_20, gn_20, gi_21, gn_21, ga_20 (c := c), ga_21 (c := c), h_X3_endPass_89, h_X3_startSequence, h_X6_isReady]
  try rfl
def g_X3_endPass (x1 : Int32) (L : LM) : Option (Unit × LM) :=
  bng (g_X3_sequenceOf x1 L) (fun r1 L2 => nm (wI L2 (5, 9, r1) ((L2.1 (5, 9, r1)) + 1)) (fun L4 => if x1 = 2 then nm (wI L4 (5, 4, 1) 0) (fun L6 => bng (g_X6_becomeIdle 1 L6) (fun r7 L8 => some ((), L8))) else if (L4.1 (5, 4, 0)) < (L4.1 (5, 1, 0)) then g_X3_endPass_60 L4 else nm (wI L4 (5, 4, 0) 0) (fun L5 => g_X3_endPass_60 L5)))
set_option maxHeartbeats 4000000 in
theorem h_X3_endPass {c : Nat} {M : Mem} {x1 : Int32} {L : LM} : f_X3_endPass c x1 (putC c M L) = mg c M (g_X3_endPass x1 L) := by
  unfold f_X3_endPass g_X3_endPass
  simp (maxSteps := 4000000) only [mg_none, mg_some, mg_ite, mg_bng, bnd_mg, mg_nm, gi_0, gn_0, gl_0, gm_0, gi_1, gn_1, gi_2, gn_2, gi_4, gn_4, gi_5, gn_5, gl_5, gm_5, gi_7, gn_7, gi_8, gn_8, gi_20, gn_20, gi_21, gn_21, ga_20 (c := c), ga_21 (c := c), h_X3_endPass_60, h_X3_sequenceOf, h_X6_becomeIdle]
  try rfl
def g_X3_finishResult_170 (j2 : Nat) (L : LM) : Option (Unit × LM) :=
  nm (wI L (5, 4, j2) ((L.1 (5, 4, j2)) + 1)) (fun L1 => some ((), L1))
set_option maxHeartbeats 4000000 in
theorem h_X3_finishResult_170 {c : Nat} {M : Mem} {j2 : Nat} {L : LM} : f_X3_finishResult_170 c j2 (putC c M L) = mg c M (g_X3_finishResult_170 j2 L) := by
  unfold f_X3_finishResult_170 g_X3_finishResult_170
  simp (maxSteps := 4000000) only [mg_none, mg_some, mg_ite, mg_bng, bnd_mg, mg_nm, gi_0, gn_0, gl_0, gm_0, gi_1, gn_1, gi_2, gn_2, gi_4, gn_4, gi_5, gn_5, gl_5, gm_5, gi_7, gn_7, gi_8, gn_8, gi_20, gn_20, gi_21, gn_21, ga_20 (c := c), ga_21 (c := c)]
  try rfl
def g_X3_finishResult_53 : Nat → Int32 → Nat → Int32 → Nat → Int32 → Int32 → LM → Option (Unit × LM)
  | 0 => fun _ _ _ _ _ _ _ => none
  | n + 1 => fun x1 j2 x3 j4 x5 x6 L => if 3 ≤ x6 then bng (g_X1_addResult j4 x5 L) (fun r1 L2 => nm (wI L2 (5, 8, j2) ((L2.1 (5, 8, j2)) + 1)) (fun L4 => nm (wL L4 (5, 12, j2) ((L4.2 (5, 12, j2)) + (Int32.toInt64 ((L4.1 (2, 15, 0)) - (L4.1 (5, 7, j2)))))) (fun L5 => if x1 = 2 then bng (g_X5_put 2 (L5.1 (5, 4, j2)) x3 (L5.1 (5, 6, j2)) (L5.1 (2, 15, 0)) x5 L5) (fun r9 L10 => g_X3_finishResult_170 j2 L10) else bng (g_X5_add 0 x3 (L5.1 (5, 6, j2)) (L5.1 (2, 15, 0)) x5 L5) (fun r6 L7 => g_X3_finishResult_170 j2 L7)))) else if bad x6 3 then none else bng (g_X9_look (Int32.toNatClampNeg x6) x3 (L.1 (5, 6, j2)) (L.1 (2, 15, 0)) x5 L) (fun r13 L14 => nm (x6 + 1) (fun e16 => (g_X3_finishResult_53 n) x1 j2 x3 j4 x5 e16 L14))
set_option maxHeartbeats 4000000 in
theorem h_X3_finishResult_53 {c : Nat} {M : Mem} : ∀ (n : Nat) (x1 : Int32) (j2 : Nat) (x3 : Int32) (j4 : Nat) (x5 : Int32) (x6 : Int32) (L : LM), f_X3_finishResult_53 n c x1 c j2 x3 c j4 x5 x6 (putC c M L) = mg c M (g_X3_finishResult_53 n x1 j2 x3 j4 x5 x6 L) := by
  intro n
  induction n with
  | zero => intro x1 j2 x3 j4 x5 x6 L; rfl
  | succ n ih =>
    intro x1 j2 x3 j4 x5 x6 L
    unfold f_X3_finishResult_53 g_X3_finishResult_53
    simp (maxSteps := 4000000) only [mg_none, mg_some, mg_ite, mg_bng, bnd_mg, mg_nm, gi_0, gn_0, gl_0, gm_0, gi_1, gn_1, gi_2, gn_2, gi_4, gn_4, gi_5, gn_5, gl_5, gm_5, gi_7, gn_7, gi_8, gn_8, gi_20, gn_20, gi_21, gn_21, ga_20 (c := c), ga_21 (c := c), h_X1_addResult, h_X3_finishResult_170, h_X5_add, h_X5_put, h_X9_look, ih]
    try rfl
def g_X3_finishResult_44 (x1 : Int32) (j2 : Nat) (x3 : Int32) (j4 : Nat) (xs0 : Int32) (L : LM) : Option (Unit × LM) :=
  bng (g_X6_forgetConversions j2 L) (fun r1 L2 => g_X3_finishResult_53 fuelN x1 j2 x3 j4 xs0 0 L2)
set_option maxHeartbeats 4000000 in
theorem h_X3_finishResult_44 {c : Nat} {M : Mem} {x1 : Int32} {j2 : Nat} {x3 : Int32} {j4 : Nat} {xs0 : Int32} {L : LM} : f_X3_finishResult_44 c x1 c j2 x3 c j4 xs0 (putC c M L) = mg c M (g_X3_finishResult_44 x1 j2 x3 j4 xs0 L) := by
  unfold f_X3_finishResult_44 g_X3_finishResult_44
  simp (maxSteps := 4000000) only [mg_none, mg_some, mg_ite, mg_bng, bnd_mg, mg_nm, gi_0, gn_0, gl_0, gm_0, gi_1, gn_1, gi_2, gn_2, gi_4, gn_4, gi_5, gn_5, gl_5, gm_5, gi_7, gn_7, gi_8, gn_8, gi_20, gn_20, gi_21, gn_21, ga_20 (c := c), ga_21 (c := c), h_X3_finishResult_53, h_X6_forgetConversions]
  try rfl
def g_X3_finishResult (x1 : Int32) (j2 : Nat) (L : LM) : Option (Unit × LM) :=
  nm (L.1 (1, 1, 0)) (fun e1 => if bad e1 8 then none else nm (((L.1 (5, 11, j2)) >>> ((L.1 (2, 13, 0)) &&& 31)) - (L.1 (0, 1, (Int32.toNatClampNeg e1)))) (fun e3 => if 0 ≤ e3 then g_X3_finishResult_44 x1 j2 e1 (Int32.toNatClampNeg e1) e3 L else g_X3_finishResult_44 x1 j2 e1 (Int32.toNatClampNeg e1) 0 L))
set_option maxHeartbeats 4000000 in
theorem h_X3_finishResult {c : Nat} {M : Mem} {x1 : Int32} {j2 : Nat} {L : LM} : f_X3_finishResult c x1 c j2 (putC c M L) = mg c M (g_X3_finishResult x1 j2 L) := by
  unfold f_X3_finishResult g_X3_finishResult
  simp (maxSteps := 4000000) only [mg_none, mg_some, mg_ite, mg_bng, bnd_mg, mg_nm, gi_0, gn_0, gl_0, gm_0, gi_1, gn_1, gi_2, gn_2, gi_4, gn_4, gi_5, gn_5, gl_5, gm_5, gi_7, gn_7, gi_8, gn_8, gi_20, gn_20, gi_21, gn_21, ga_20 (c := c), ga_21 (c := c), h_X3_finishResult_44]
  try rfl
def g_X3_advanceConversion_51  (L : LM) : Option (Unit × LM) :=
  if (L.1 (1, 2, 0)) ≤ 0 then nm (L.1 (1, 0, 0)) (fun e1 => bng (g_X3_sequenceOf e1 L) (fun r2 L3 => nm (wI L3 (1, 0, 0) 0) (fun L5 => nm (wI L5 (1, 4, 0) ((L5.1 (1, 4, 0)) + 1)) (fun L6 => nm (wI L6 (5, 10, r2) ((L6.1 (5, 10, r2)) + 1)) (fun L7 => nm (wI L7 (5, 11, r2) ((L7.1 (5, 11, r2)) + (L7.1 (1, 3, 0)))) (fun L8 => if (L8.1 (5, 10, r2)) < (1 <<< ((L8.1 (2, 12, 0)) &&& 31)) then some ((), L8) else bng (g_X3_finishResult e1 r2 L8) (fun r9 L10 => if (L10.1 (5, 4, r2)) < (L10.1 (5, 5, r2)) then some ((), L10) else bng (g_X3_endPass e1 L10) (fun r12 L13 => some ((), L13))))))))) else some ((), L)
set_option maxHeartbeats 4000000 in
theorem h_X3_advanceConversion_51 {c : Nat} {M : Mem} {L : LM} : f_X3_advanceConversion_51 c (putC c M L) = mg c M (g_X3_advanceConversion_51  L) := by
  unfold f_X3_advanceConversion_51 g_X3_advanceConversion_51
  simp (maxSteps := 4000000) only [mg_none, mg_some, mg_ite, mg_bng, bnd_mg, mg_nm, gi_0, gn_0, gl_0, gm_0, gi_1, gn_1, gi_2, gn_2, gi_4, gn_4, gi_5, gn_5, gl_5, gm_5, gi_7, gn_7, gi_8, gn_8, gi_20, gn_20, gi_21, gn_21, ga_20 (c := c), ga_21 (c := c), h_X3_endPass, h_X3_finishResult, h_X3_sequenceOf]
  try rfl
def g_X3_advanceConversion  (L : LM) : Option (Unit × LM) :=
  nm (wI L (1, 2, 0) ((L.1 (1, 2, 0)) - 1)) (fun L1 => if (L1.1 (1, 2, 0)) = 12 then if bad (L1.1 (1, 1, 0)) 8 then none else bng (g_X1_signalAt (Int32.toNatClampNeg (L1.1 (1, 1, 0))) (L1.1 (2, 15, 0)) L1) (fun r3 L4 => nm (wI L4 (1, 3, 0) r3) (fun L6 => g_X3_advanceConversion_51 L6)) else g_X3_advanceConversion_51 L1)
set_option maxHeartbeats 4000000 in
theorem h_X3_advanceConversion {c : Nat} {M : Mem} {L : LM} : f_X3_advanceConversion c (putC c M L) = mg c M (g_X3_advanceConversion  L) := by
  unfold f_X3_advanceConversion g_X3_advanceConversion
  simp (maxSteps := 4000000) only [mg_none, mg_some, mg_ite, mg_bng, bnd_mg, mg_nm, gi_0, gn_0, gl_0, gm_0, gi_1, gn_1, gi_2, gn_2, gi_4, gn_4, gi_5, gn_5, gl_5, gm_5, gi_7, gn_7, gi_8, gn_8, gi_20, gn_20, gi_21, gn_21, ga_20 (c := c), ga_21 (c := c), h_X1_signalAt, h_X3_advanceConversion_51]
  try rfl
def g_X3_fireTrigger_40 (j2 : Nat) (L : LM) : Option (Int32 × LM) :=
  nm (wI L (7, 4, j2) ((L.1 (7, 4, j2)) + 1)) (fun L1 => some (0, L1))
set_option maxHeartbeats 4000000 in
theorem h_X3_fireTrigger_40 {c : Nat} {M : Mem} {j2 : Nat} {L : LM} : f_X3_fireTrigger_40 c j2 (putC c M L) = mg c M (g_X3_fireTrigger_40 j2 L) := by
  unfold f_X3_fireTrigger_40 g_X3_fireTrigger_40
  simp (maxSteps := 4000000) only [mg_none, mg_some, mg_ite, mg_bng, bnd_mg, mg_nm, gi_0, gn_0, gl_0, gm_0, gi_1, gn_1, gi_2, gn_2, gi_4, gn_4, gi_5, gn_5, gl_5, gm_5, gi_7, gn_7, gi_8, gn_8, gi_20, gn_20, gi_21, gn_21, ga_20 (c := c), ga_21 (c := c)]
  try rfl
def g_X3_fireTrigger (x1 : Int32) (L : LM) : Option (Int32 × LM) :=
  if bad x1 4 then none else nm (wI L (7, 3, (Int32.toNatClampNeg x1)) ((L.1 (7, 3, (Int32.toNatClampNeg x1))) + 1)) (fun L2 => bng (g_X3_sequenceOf (L2.1 (7, 0, (Int32.toNatClampNeg x1))) L2) (fun r3 L4 => if (L4.1 (7, 0, (Int32.toNatClampNeg x1))) = 0 then g_X3_fireTrigger_40 (Int32.toNatClampNeg x1) L4 else bng (g_X6_isReady r3 L4) (fun r6 L7 => if r6 = 0 then g_X3_fireTrigger_40 (Int32.toNatClampNeg x1) L7 else bng (g_X3_startSequence (L7.1 (7, 0, (Int32.toNatClampNeg x1))) x1 L7) (fun r9 L10 => some (1, L10)))))
set_option maxHeartbeats 4000000 in
theorem h_X3_fireTrigger {c : Nat} {M : Mem} {x1 : Int32} {L : LM} : f_X3_fireTrigger c x1 (putC c M L) = mg c M (g_X3_fireTrigger x1 L) := by
  unfold f_X3_fireTrigger g_X3_fireTrigger
  simp (maxSteps := 4000000) only [mg_none, mg_some, mg_ite, mg_bng, bnd_mg, mg_nm, gi_0, gn_0, gl_0, gm_0, gi_1, gn_1, gi_2, gn_2, gi_4, gn_4, gi_5, gn_5, gl_5, gm_5, gi_7, gn_7, gi_8, gn_8, gi_20, gn_20, gi_21, gn_21, ga_20 (c := c), ga_21 (c := c), h_X3_fireTrigger_40, h_X3_sequenceOf, h_X3_startSequence, h_X6_isReady]
  try rfl
def g_X3_startConversion_43  (L : LM) : Option (Unit × LM) :=
  bng (g_X3_sequenceOf (L.1 (1, 0, 0)) L) (fun r1 L2 => bng (g_X6_nextChannel r1 L2) (fun r4 L5 => nm (wI L5 (1, 1, 0) r4) (fun L7 => if bad (L7.1 (1, 1, 0)) 8 then none else bng (g_X1_conversionLength (Int32.toNatClampNeg (L7.1 (1, 1, 0))) L7) (fun r9 L10 => nm (wI L10 (1, 2, 0) r9) (fun L12 => some ((), L12))))))
set_option maxHeartbeats 4000000 in
theorem h_X3_startConversion_43 {c : Nat} {M : Mem} {L : LM} : f_X3_startConversion_43 c (putC c M L) = mg c M (g_X3_startConversion_43  L) := by
  unfold f_X3_startConversion_43 g_X3_startConversion_43
  simp (maxSteps := 4000000) only [mg_none, mg_some, mg_ite, mg_bng, bnd_mg, mg_nm, gi_0, gn_0, gl_0, gm_0, gi_1, gn_1, gi_2, gn_2, gi_4, gn_4, gi_5, gn_5, gl_5, gm_5, gi_7, gn_7, gi_8, gn_8, gi_20, gn_20, gi_21, gn_21, ga_20 (c := c), ga_21 (c := c), h_X1_conversionLength, h_X3_sequenceOf, h_X6_nextChannel]
  try rfl
def g_X3_startConversion  (L : LM) : Option (Unit × LM) :=
  if (L.1 (5, 3, 1)) = 0 then if (L.1 (5, 3, 0)) = 0 then some ((), L) else nm (wI L (1, 0, 0) 1) (fun L1 => g_X3_startConversion_43 L1) else nm (wI L (1, 0, 0) 2) (fun L2 => g_X3_startConversion_43 L2)
set_option maxHeartbeats 4000000 in
theorem h_X3_startConversion {c : Nat} {M : Mem} {L : LM} : f_X3_startConversion c (putC c M L) = mg c M (g_X3_startConversion  L) := by
  unfold f_X3_startConversion g_X3_startConversion
  simp (maxSteps := 4000000) only [mg_none, mg_some, mg_ite, mg_bng, bnd_mg, mg_nm, gi_0, gn_0, gl_0, gm_0, gi_1, gn_1, gi_2, gn_2, gi_4, gn_4, gi_5, gn_5, gl_5, gm_5, gi_7, gn_7, gi_8, gn_8, gi_20, gn_20, gi_21, gn_21, ga_20 (c := c), ga_21 (c := c), h_X3_startConversion_43]
  try rfl
def g_X3_transferOldest  (L : LM) : Option (Unit × LM) :=
  if (L.1 (4, 5, 0)) = 0 then some ((), L) else bng (g_X5_oldestNumber 0 0 L) (fun r1 L2 => bng (g_X5_oldestNumber 0 1 L2) (fun r4 L5 => bng (g_X5_oldestNumber 0 2 L5) (fun r7 L8 => bng (g_X5_oldestNumber 0 3 L8) (fun r10 L11 => bng (g_X5_add 1 r1 r4 r7 r10 L11) (fun r13 L14 => bng (g_X5_removeOldest 0 L14) (fun r16 L17 => nm (wI L17 (2, 16, 0) ((L17.1 (2, 16, 0)) + 1)) (fun L19 => some ((), L19))))))))
set_option maxHeartbeats 4000000 in
theorem h_X3_transferOldest {c : Nat} {M : Mem} {L : LM} : f_X3_transferOldest c (putC c M L) = mg c M (g_X3_transferOldest  L) := by
  unfold f_X3_transferOldest g_X3_transferOldest
  simp (maxSteps := 4000000) only [mg_none, mg_some, mg_ite, mg_bng, bnd_mg, mg_nm, gi_0, gn_0, gl_0, gm_0, gi_1, gn_1, gi_2, gn_2, gi_4, gn_4, gi_5, gn_5, gl_5, gm_5, gi_7, gn_7, gi_8, gn_8, gi_20, gn_20, gi_21, gn_21, ga_20 (c := c), ga_21 (c := c), h_X5_add, h_X5_oldestNumber, h_X5_removeOldest]
  try rfl
def g_X3_passCycle_88  (L : LM) : Option (Unit × LM) :=
  nm (wI L (2, 15, 0) ((L.1 (2, 15, 0)) + 1)) (fun L1 => some ((), L1))
set_option maxHeartbeats 4000000 in
theorem h_X3_passCycle_88 {c : Nat} {M : Mem} {L : LM} : f_X3_passCycle_88 c (putC c M L) = mg c M (g_X3_passCycle_88  L) := by
  unfold f_X3_passCycle_88 g_X3_passCycle_88
  simp (maxSteps := 4000000) only [mg_none, mg_some, mg_ite, mg_bng, bnd_mg, mg_nm, gi_0, gn_0, gl_0, gm_0, gi_1, gn_1, gi_2, gn_2, gi_4, gn_4, gi_5, gn_5, gl_5, gm_5, gi_7, gn_7, gi_8, gn_8, gi_20, gn_20, gi_21, gn_21, ga_20 (c := c), ga_21 (c := c)]
  try rfl
def g_X3_passCycle_63  (L : LM) : Option (Unit × LM) :=
  if (L.1 (2, 14, 0)) ≤ 0 then g_X3_passCycle_88 L else if (L.1 (2, 14, 0)) = 0 then none else if (((L.1 (2, 15, 0)) + 1) - ((L.1 (2, 15, 0)) + 1) / (L.1 (2, 14, 0)) * (L.1 (2, 14, 0))) = 0 then bng (g_X3_transferOldest L) (fun r1 L2 => g_X3_passCycle_88 L2) else g_X3_passCycle_88 L
set_option maxHeartbeats 4000000 in
theorem h_X3_passCycle_63 {c : Nat} {M : Mem} {L : LM} : f_X3_passCycle_63 c (putC c M L) = mg c M (g_X3_passCycle_63  L) := by
  unfold f_X3_passCycle_63 g_X3_passCycle_63
  simp (maxSteps := 4000000) only [mg_none, mg_some, mg_ite, mg_bng, bnd_mg, mg_nm, gi_0, gn_0, gl_0, gm_0, gi_1, gn_1, gi_2, gn_2, gi_4, gn_4, gi_5, gn_5, gl_5, gm_5, gi_7, gn_7, gi_8, gn_8, gi_20, gn_20, gi_21, gn_21, ga_20 (c := c), ga_21 (c := c), h_X3_passCycle_88, h_X3_transferOldest]
  try rfl
def g_X3_passCycle_49  (L : LM) : Option (Unit × LM) :=
  if (L.1 (1, 0, 0)) = 0 then g_X3_passCycle_63 L else bng (g_X3_advanceConversion L) (fun r1 L2 => g_X3_passCycle_63 L2)
set_option maxHeartbeats 4000000 in
theorem h_X3_passCycle_49 {c : Nat} {M : Mem} {L : LM} : f_X3_passCycle_49 c (putC c M L) = mg c M (g_X3_passCycle_49  L) := by
  unfold f_X3_passCycle_49 g_X3_passCycle_49
  simp (maxSteps := 4000000) only [mg_none, mg_some, mg_ite, mg_bng, bnd_mg, mg_nm, gi_0, gn_0, gl_0, gm_0, gi_1, gn_1, gi_2, gn_2, gi_4, gn_4, gi_5, gn_5, gl_5, gm_5, gi_7, gn_7, gi_8, gn_8, gi_20, gn_20, gi_21, gn_21, ga_20 (c := c), ga_21 (c := c), h_X3_advanceConversion, h_X3_passCycle_63]
  try rfl
def g_X3_passCycle_29 (r2 : Int32 → LM → Option (Unit × LM)) (x1 : Int32) (L : LM) : Option (Unit × LM) :=
  nm (x1 + 1) (fun e1 => r2 e1 L)
theorem h_X3_passCycle_29 {c : Nat} {M : Mem} {r2 : Nat → Int32 → Mem → Option (Unit × Mem)} {q2 : Int32 → LM → Option (Unit × LM)} (hr : ∀ x L, r2 c x (putC c M L) = mg c M (q2 x L)) {x1 : Int32} {L : LM} : f_X3_passCycle_29 r2 c x1 (putC c M L) = mg c M (g_X3_passCycle_29 q2 x1 L) := hr _ _
def g_X3_passCycle_2 : Nat → Int32 → LM → Option (Unit × LM)
  | 0 => fun _ _ => none
  | n + 1 => fun x1 L => if 4 ≤ x1 then if (L.1 (1, 0, 0)) = 0 then bng (g_X3_startConversion L) (fun r1 L2 => g_X3_passCycle_49 L2) else g_X3_passCycle_49 L else if bad x1 4 then none else bng (g_X8_isDue (Int32.toNatClampNeg x1) (L.1 (2, 15, 0)) L) (fun r5 L6 => if r5 = 0 then g_X3_passCycle_29 (g_X3_passCycle_2 n) x1 L6 else bng (g_X3_fireTrigger x1 L6) (fun r8 L9 => g_X3_passCycle_29 (g_X3_passCycle_2 n) x1 L9))
set_option maxHeartbeats 4000000 in
theorem h_X3_passCycle_2 {c : Nat} {M : Mem} : ∀ (n : Nat) (x1 : Int32) (L : LM), f_X3_passCycle_2 n c x1 (putC c M L) = mg c M (g_X3_passCycle_2 n x1 L) := by
  intro n
  induction n with
  | zero => intro x1 L; rfl
  | succ n ih =>
    intro x1 L
    unfold f_X3_passCycle_2 g_X3_passCycle_2
    simp (maxSteps := 4000000) only [mg_none, mg_some, mg_ite, mg_bng, bnd_mg, mg_nm, gi_0, gn_0, gl_0, gm_0, gi_1, gn_1, gi_2, gn_2, gi_4, gn_4, gi_5, gn_5, gl_5, gm_5, gi_7, gn_7, gi_8, gn_8, gi_20, gn_20, gi_21, gn_21, ga_20 (c := c), ga_21 (c := c), h_X3_fireTrigger, h_X3_passCycle_29 ih, h_X3_passCycle_49, h_X3_startConversion, h_X8_isDue, ih]
    try rfl
def g_X3_passCycle  (L : LM) : Option (Unit × LM) :=
  g_X3_passCycle_2 fuelN 0 L
set_option maxHeartbeats 4000000 in
theorem h_X3_passCycle {c : Nat} {M : Mem} {L : LM} : f_X3_passCycle c (putC c M L) = mg c M (g_X3_passCycle  L) := by
  unfold f_X3_passCycle g_X3_passCycle
  simp (maxSteps := 4000000) only [mg_none, mg_some, mg_ite, mg_bng, bnd_mg, mg_nm, gi_0, gn_0, gl_0, gm_0, gi_1, gn_1, gi_2, gn_2, gi_4, gn_4, gi_5, gn_5, gl_5, gm_5, gi_7, gn_7, gi_8, gn_8, gi_20, gn_20, gi_21, gn_21, ga_20 (c := c), ga_21 (c := c), h_X3_passCycle_2]
  try rfl
def g_X3_stopRegular  (L : LM) : Option (Int32 × LM) :=
  nm (L.1 (5, 3, 0)) (fun e1 => bng (g_X3_breakOffRegular 0 L) (fun r2 L3 => bng (g_X6_forgetConversions 0 L3) (fun r5 L6 => bng (g_X6_becomeIdle 0 L6) (fun r8 L9 => nm (wI L9 (5, 4, 0) 0) (fun L11 => if ¬ (e1 = 0 ∨ e1 = 1) then none else some (e1, L11))))))
set_option maxHeartbeats 4000000 in
theorem h_X3_stopRegular {c : Nat} {M : Mem} {L : LM} : f_X3_stopRegular c (putC c M L) = mg c M (g_X3_stopRegular  L) := by
  unfold f_X3_stopRegular g_X3_stopRegular
  simp (maxSteps := 4000000) only [mg_none, mg_some, mg_ite, mg_bng, bnd_mg, mg_nm, gi_0, gn_0, gl_0, gm_0, gi_1, gn_1, gi_2, gn_2, gi_4, gn_4, gi_5, gn_5, gl_5, gm_5, gi_7, gn_7, gi_8, gn_8, gi_20, gn_20, gi_21, gn_21, ga_20 (c := c), ga_21 (c := c), h_X3_breakOffRegular, h_X6_becomeIdle, h_X6_forgetConversions]
  try rfl
