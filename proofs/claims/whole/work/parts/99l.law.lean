/-! ===== the law's branches and its loop ===== -/
theorem Inv.up {B B' : Nat} {M : Mem} (h : Inv B M) (hB : B ≤ B') : Inv B' M := by
  obtain ⟨t, L, V, hI⟩ := h
  exact ⟨t, L, V, hI.up hB⟩
theorem Inv.ui0 {B : Nat} {M : Mem} {x : Int32} (h : Inv B M) : Inv B (uI M (10, 0, 0) 0 x) := by
  obtain ⟨t, L, V, hI⟩ := h
  exact ⟨t, L, V, hI.ui0 x⟩
theorem h1H {a : Nat} : ∀ (e : Nat) (M : Mem), ¬ cd1 a e = 0 → (fun (e9 : Nat) (M2 : Mem) => if e9 = a then some ((1 : Int32), M2) else none) e M = some (cd1 a e, M) := fun e M h => by
  unfold cd1 at *
  dsimp only
  by_cases q : e = a
  · rw [if_pos q, if_pos q]
  · rw [if_neg q] at h; exact absurd rfl h
theorem h2H {a b : Nat} : ∀ (e : Nat) (M : Mem), ¬ cd2 a b e = 0 → (fun (e9 : Nat) (M2 : Mem) => if e9 = a then some ((1 : Int32), M2) else if e9 = b then some (2, M2) else none) e M = some (cd2 a b e, M) := fun e M h => by
  unfold cd2 at *
  dsimp only
  by_cases q : e = a
  · rw [if_pos q, if_pos q]
  · rw [if_neg q] at h
    rw [if_neg q, if_neg q]
    by_cases q2 : e = b
    · rw [if_pos q2, if_pos q2]
    · rw [if_neg q2] at h; exact absurd rfl h
theorem h3H {a b c : Nat} : ∀ (e : Nat) (M : Mem), ¬ cd3 a b c e = 0 → (fun (e9 : Nat) (M2 : Mem) => if e9 = a then some ((1 : Int32), M2) else if e9 = b then some (2, M2) else if e9 = c then some (3, M2) else none) e M = some (cd3 a b c e, M) := fun e M h => by
  unfold cd3 at *
  dsimp only
  by_cases q : e = a
  · rw [if_pos q, if_pos q]
  · rw [if_neg q] at h
    rw [if_neg q, if_neg q]
    by_cases q2 : e = b
    · rw [if_pos q2, if_pos q2]
    · rw [if_neg q2] at h
      rw [if_neg q2, if_neg q2]
      by_cases q3 : e = c
      · rw [if_pos q3, if_pos q3]
      · rw [if_neg q3] at h; exact absurd rfl h
theorem cl0 : Int32.toNatClampNeg 0 = 0 := by decide
theorem LXi {cd : Nat → Int32} {F : Option ((Int32 ⊕ Nat) × Mem)} {E : Mem → Option (Int32 × Mem)} {M : Mem} {B' : Nat} {H : Nat → Mem → Option (Int32 × Mem)} (hA : Ans cd F E M B') (hH : ∀ e M, ¬ cd e = 0 → H e M = some (cd e, M)) :
    ∃ r1 M2 r4 M5, catchX F (fun r1 M2 => if bad 0 1 then none else nm (uL M2 (40, 0, 0) (Int32.toNatClampNeg 0) (Int32.toInt64 r1)) (fun M4 => some (0, M4))) H = some (r1, M2) ∧ E M2 = some (r4, M5) ∧ Inv B' M5 ∧ M5.1 (10, 0, 0) 0 = r1 ∧ (r1 = 0 → lg_cmp (M5.2.1 (40, 0, 0) (Int32.toNatClampNeg 0)) (Int32.toInt64 r4) = 0) := by
  rcases hA with ⟨e, b, rfl, h1, h2, h3⟩ | ⟨v, M1, rfl, h⟩
  · exact ⟨cd e, M, b, uI M (10, 0, 0) 0 (cd e), hH e M h1, h2, h3.ui0, uI_at, fun q => absurd q h1⟩
  · obtain ⟨M2, a1, a2, a3, a4⟩ := h (Int32.toInt64 v)
    refine ⟨0, uL M1 (40, 0, 0) 0 (Int32.toInt64 v), v, M2, ?_, a1, a4, a2, fun _ => by rw [cl0, a3]; exact lg0.mpr rfl⟩
    show (if bad 0 1 then none else nm (uL M1 (40, 0, 0) (Int32.toNatClampNeg 0) (Int32.toInt64 v)) (fun M4 => some ((0 : Int32), M4))) = _
    rw [if_neg (by first | decide | simp), cl0]
    rfl
theorem LXl {cd : Nat → Int32} {F : Option ((Int64 ⊕ Nat) × Mem)} {E : Mem → Option (Int64 × Mem)} {M : Mem} {B' : Nat} {H : Nat → Mem → Option (Int32 × Mem)} (hA : AnsL cd F E M B') (hH : ∀ e M, ¬ cd e = 0 → H e M = some (cd e, M)) :
    ∃ r1 M2 r4 M5, catchX F (fun r1 M2 => if bad 0 1 then none else nm (uL M2 (40, 0, 0) (Int32.toNatClampNeg 0) r1) (fun M4 => some (0, M4))) H = some (r1, M2) ∧ E M2 = some (r4, M5) ∧ Inv B' M5 ∧ M5.1 (10, 0, 0) 0 = r1 ∧ (r1 = 0 → lg_cmp (M5.2.1 (40, 0, 0) (Int32.toNatClampNeg 0)) r4 = 0) := by
  rcases hA with ⟨e, b, rfl, h1, h2, h3⟩ | ⟨v, M1, rfl, h⟩
  · exact ⟨cd e, M, b, uI M (10, 0, 0) 0 (cd e), hH e M h1, h2, h3.ui0, uI_at, fun q => absurd q h1⟩
  · obtain ⟨M2, a1, a2, a3, a4⟩ := h v
    refine ⟨0, uL M1 (40, 0, 0) 0 v, v, M2, ?_, a1, a4, a2, fun _ => by rw [cl0, a3]; exact lg0.mpr rfl⟩
    show (if bad 0 1 then none else nm (uL M1 (40, 0, 0) (Int32.toNatClampNeg 0) v) (fun M4 => some ((0 : Int32), M4))) = _
    rw [if_neg (by first | decide | simp), cl0]
    rfl
theorem LXd {cd : Nat → Int32} {F : Option ((UInt64 ⊕ Nat) × Mem)} {E : Mem → Option (UInt64 × Mem)} {M : Mem} {B' : Nat} {H : Nat → Mem → Option (Int32 × Mem)} (hA : AnsD cd F E M B') (hH : ∀ e M, ¬ cd e = 0 → H e M = some (cd e, M)) :
    ∃ r1 M2 r4 M5, catchX F (fun r1 M2 => if bad 0 1 then none else nm (uD M2 (41, 0, 0) (Int32.toNatClampNeg 0) r1) (fun M4 => some (0, M4))) H = some (r1, M2) ∧ E M2 = some (r4, M5) ∧ Inv B' M5 ∧ M5.1 (10, 0, 0) 0 = r1 ∧ (r1 = 0 → M5.2.2 (41, 0, 0) (Int32.toNatClampNeg 0) = r4) := by
  rcases hA with ⟨e, b, rfl, h1, h2, h3⟩ | ⟨v, M1, rfl, h⟩
  · exact ⟨cd e, M, b, uI M (10, 0, 0) 0 (cd e), hH e M h1, h2, h3.ui0, uI_at, fun q => absurd q h1⟩
  · obtain ⟨M2, a1, a2, a3, a4⟩ := h v
    refine ⟨0, uD M1 (41, 0, 0) 0 v, v, M2, ?_, a1, a4, a2, fun _ => by rw [cl0, a3]⟩
    show (if bad 0 1 then none else nm (uD M1 (41, 0, 0) (Int32.toNatClampNeg 0) v) (fun M4 => some ((0 : Int32), M4))) = _
    rw [if_neg (by first | decide | simp), cl0]
    rfl
theorem thr_ {M : Mem} : f_X12_thrown M = some (M.1 (10, 0, 0) 0, M) := rfl
theorem LTi {r28 : Int32 → Mem → Option (Int32 × Mem)} {x r1 : Int32} {y : Int64} {M5 : Mem} (h0 : M5.1 (10, 0, 0) 0 = r1) (hl : r1 = 0 → lg_cmp (M5.2.1 (40, 0, 0) (Int32.toNatClampNeg 0)) y = 0) :
    bnd (f_X12_thrown M5) (fun r7 M8 => if r7 = r1 then if r1 = 0 then if bad 0 1 then none else if (lg_cmp (M8.2.1 (40, 0, 0) (Int32.toNatClampNeg 0)) y) = 0 then r28 (x + 6) M8 else some (0, M8) else r28 (x + 6) M8 else some (0, M8)) = r28 (x + 6) M5 := by
  rw [thr_, bnd_some, if_pos h0]
  by_cases q : r1 = 0
  · rw [if_pos q, if_neg (by first | decide | simp), if_pos (hl q)]
  · rw [if_neg q]
theorem LTd {r28 : Int32 → Mem → Option (Int32 × Mem)} {x r1 : Int32} {y : UInt64} {M5 : Mem} (h0 : M5.1 (10, 0, 0) 0 = r1) (hl : r1 = 0 → M5.2.2 (41, 0, 0) (Int32.toNatClampNeg 0) = y) :
    bnd (f_X12_thrown M5) (fun r7 M8 => if r7 = r1 then if r1 = 0 then if bad 0 1 then none else if (Op.cmpValue (FP.dcmp (M8.2.2 (41, 0, 0) (Int32.toNatClampNeg 0)) y) CmpOp.l) = 0 then r28 (x + 6) M8 else if bad 0 1 then none else if bad 0 1 then none else if (Op.cmpValue (FP.dcmp (M8.2.2 (41, 0, 0) (Int32.toNatClampNeg 0)) (M8.2.2 (41, 0, 0) (Int32.toNatClampNeg 0))) CmpOp.l) = 0 then some (0, M8) else if (Op.cmpValue (FP.dcmp y y) CmpOp.l) = 0 then some (0, M8) else r28 (x + 6) M8 else r28 (x + 6) M8 else some (0, M8)) = r28 (x + 6) M5 := by
  rw [thr_, bnd_some, if_pos h0]
  by_cases q : r1 = 0
  · rw [if_pos q, if_neg (by first | decide | simp), hl q]
    by_cases z : Op.cmpValue (FP.dcmp y y) CmpOp.l = 0
    · rw [if_pos z]
    · rw [if_neg z, if_neg (by first | decide | simp), if_neg (by first | decide | simp), if_neg z, if_neg z]
  · rw [if_neg q]
theorem nb {i L j : Nat} {y : Int32} (hi : i + 6 ≤ L) (hL : L ≤ 3072) (hj : j < 6) (hy : y = nI j) : ¬ bad (nI i + y) L := by
  subst hy
  rw [nI_add]
  exact nbad (by omega) (by omega)
theorem LTI {r28 : Int32 → Mem → Option (Int32 × Mem)} {x v : Int32} {M5 : Mem} : (if v = v then r28 (x + 6) M5 else some (0, M5)) = r28 (x + 6) M5 := if_pos rfl
theorem LB_200 {xs : Nat → Int32} {L i B : Nat} {r28 : Int32 → Mem → Option (Int32 × Mem)} {M : Mem} (hI : Inv B M) (hB : B + 5000 < 2 ^ 30) (hi : i + 6 ≤ L) (hL : L ≤ 3072) (hr : ∀ M', Inv (B + 5000) M' → ∃ M'', r28 (nI i + 6) M' = some (1, M'')) : ∃ M'', f_L_law_200 xs L r28 (nI i) M = some (1, M'') := by
  obtain ⟨t, C, V, h⟩ := hI
  obtain ⟨r1, M2, r4, M5, e1, e2, e3, e4, e5⟩ := LXi (H := fun (e9 : Nat) (M2 : Mem) => if e9 = 0 then some (1, M2) else none) (A_append h (xs (Int32.toNatClampNeg (nI i + 1))) (xs (Int32.toNatClampNeg (nI i + 2))) (xs (Int32.toNatClampNeg (nI i + 3))) (xs (Int32.toNatClampNeg (nI i + 4))) (xs (Int32.toNatClampNeg (nI i + 5)))) h1H
  obtain ⟨M'', hM⟩ := hr M5 (e3.up (by omega))
  refine ⟨M'', ?_⟩
  unfold f_L_law_200 f_L_append
  rw [if_neg (nb hi hL (j := 1) (y := 1) (by first | decide | simp) rfl), if_neg (nb hi hL (j := 2) (y := 2) (by first | decide | simp) rfl), if_neg (nb hi hL (j := 3) (y := 3) (by first | decide | simp) rfl), if_neg (nb hi hL (j := 4) (y := 4) (by first | decide | simp) rfl), if_neg (nb hi hL (j := 5) (y := 5) (by first | decide | simp) rfl), e1, bnd_some, if_neg (nb hi hL (j := 1) (y := 1) (by first | decide | simp) rfl), if_neg (nb hi hL (j := 2) (y := 2) (by first | decide | simp) rfl), if_neg (nb hi hL (j := 3) (y := 3) (by first | decide | simp) rfl), if_neg (nb hi hL (j := 4) (y := 4) (by first | decide | simp) rfl), if_neg (nb hi hL (j := 5) (y := 5) (by first | decide | simp) rfl), e2, bnd_some]
  exact (LTi e4 e5).trans hM
theorem LB_304 {xs : Nat → Int32} {L i B : Nat} {r28 : Int32 → Mem → Option (Int32 × Mem)} {M : Mem} (hI : Inv B M) (hB : B + 5000 < 2 ^ 30) (hi : i + 6 ≤ L) (hL : L ≤ 3072) (hr : ∀ M', Inv (B + 5000) M' → ∃ M'', r28 (nI i + 6) M' = some (1, M'')) : ∃ M'', f_L_law_304 xs L r28 (nI i) M = some (1, M'') := by
  obtain ⟨t, C, V, h⟩ := hI
  obtain ⟨r1, M2, r4, M5, e1, e2, e3, e4, e5⟩ := LXi (H := fun (e9 : Nat) (M2 : Mem) => if e9 = 1 then some (1, M2) else none) (A_truncate h (xs (Int32.toNatClampNeg (nI i + 1)))) h1H
  obtain ⟨M'', hM⟩ := hr M5 (e3.up (by omega))
  refine ⟨M'', ?_⟩
  unfold f_L_law_304 f_L_truncate
  rw [if_neg (nb hi hL (j := 1) (y := 1) (by first | decide | simp) rfl), e1, bnd_some, if_neg (nb hi hL (j := 1) (y := 1) (by first | decide | simp) rfl), e2, bnd_some]
  exact (LTi e4 e5).trans hM
theorem LB_360 {xs : Nat → Int32} {L i B : Nat} {r28 : Int32 → Mem → Option (Int32 × Mem)} {M : Mem} (hI : Inv B M) (hB : B + 5000 < 2 ^ 30) (hi : i + 6 ≤ L) (hL : L ≤ 3072) (hr : ∀ M', Inv (B + 5000) M' → ∃ M'', r28 (nI i + 6) M' = some (1, M'')) : ∃ M'', f_L_law_360 xs L r28 (nI i) M = some (1, M'') := by
  obtain ⟨t, C, V, h⟩ := hI
  obtain ⟨v, M1, M2, e1, e2, e3⟩ := A_setup h
  obtain ⟨M'', hM⟩ := hr M2 (e3.up (by omega))
  refine ⟨M'', ?_⟩
  unfold f_L_law_360
  rw [e1, bnd_some, e2, bnd_some]
  exact LTI.trans hM
theorem LB_373 {xs : Nat → Int32} {L i B : Nat} {r28 : Int32 → Mem → Option (Int32 × Mem)} {M : Mem} (hI : Inv B M) (hB : B + 5000 < 2 ^ 30) (hi : i + 6 ≤ L) (hL : L ≤ 3072) (hr : ∀ M', Inv (B + 5000) M' → ∃ M'', r28 (nI i + 6) M' = some (1, M'')) : ∃ M'', f_L_law_373 xs L r28 (nI i) M = some (1, M'') := by
  obtain ⟨t, C, V, h⟩ := hI
  obtain ⟨v, M1, M2, e1, e2, e3⟩ := A_errorCode h
  obtain ⟨M'', hM⟩ := hr M2 (e3.up (by omega))
  refine ⟨M'', ?_⟩
  unfold f_L_law_373
  rw [e1, bnd_some, e2, bnd_some]
  exact LTI.trans hM
theorem LB_386 {xs : Nat → Int32} {L i B : Nat} {r28 : Int32 → Mem → Option (Int32 × Mem)} {M : Mem} (hI : Inv B M) (hB : B + 5000 < 2 ^ 30) (hi : i + 6 ≤ L) (hL : L ≤ 3072) (hr : ∀ M', Inv (B + 5000) M' → ∃ M'', r28 (nI i + 6) M' = some (1, M'')) : ∃ M'', f_L_law_386 xs L r28 (nI i) M = some (1, M'') := by
  obtain ⟨t, C, V, h⟩ := hI
  obtain ⟨v, M1, M2, e1, e2, e3⟩ := A_errorPosition h
  obtain ⟨M'', hM⟩ := hr M2 (e3.up (by omega))
  refine ⟨M'', ?_⟩
  unfold f_L_law_386
  rw [e1, bnd_some, e2, bnd_some]
  exact LTI.trans hM
theorem LB_399 {xs : Nat → Int32} {L i B : Nat} {r28 : Int32 → Mem → Option (Int32 × Mem)} {M : Mem} (hI : Inv B M) (hB : B + 5000 < 2 ^ 30) (hi : i + 6 ≤ L) (hL : L ≤ 3072) (hr : ∀ M', Inv (B + 5000) M' → ∃ M'', r28 (nI i + 6) M' = some (1, M'')) : ∃ M'', f_L_law_399 xs L r28 (nI i) M = some (1, M'') := by
  obtain ⟨t, C, V, h⟩ := hI
  obtain ⟨r1, M2, r4, M5, e1, e2, e3, e4, e5⟩ := LXi (H := fun (e9 : Nat) (M2 : Mem) => if e9 = 1 then some (1, M2) else none) (A_run h hB (xs (Int32.toNatClampNeg (nI i + 1)))) h1H
  obtain ⟨M'', hM⟩ := hr M5 (e3.up (by omega))
  refine ⟨M'', ?_⟩
  unfold f_L_law_399 f_L_run
  rw [if_neg (nb hi hL (j := 1) (y := 1) (by first | decide | simp) rfl), e1, bnd_some, if_neg (nb hi hL (j := 1) (y := 1) (by first | decide | simp) rfl), e2, bnd_some]
  exact (LTi e4 e5).trans hM
theorem LB_455 {xs : Nat → Int32} {L i B : Nat} {r28 : Int32 → Mem → Option (Int32 × Mem)} {M : Mem} (hI : Inv B M) (hB : B + 5000 < 2 ^ 30) (hi : i + 6 ≤ L) (hL : L ≤ 3072) (hr : ∀ M', Inv (B + 5000) M' → ∃ M'', r28 (nI i + 6) M' = some (1, M'')) : ∃ M'', f_L_law_455 xs L r28 (nI i) M = some (1, M'') := by
  obtain ⟨t, C, V, h⟩ := hI
  obtain ⟨r1, M2, r4, M5, e1, e2, e3, e4, e5⟩ := LXi (H := fun (e9 : Nat) (M2 : Mem) => if e9 = 2 then some (1, M2) else none) (A_fire h (xs (Int32.toNatClampNeg (nI i + 1)))) h1H
  obtain ⟨M'', hM⟩ := hr M5 (e3.up (by omega))
  refine ⟨M'', ?_⟩
  unfold f_L_law_455 f_L_fire
  rw [if_neg (nb hi hL (j := 1) (y := 1) (by first | decide | simp) rfl), e1, bnd_some, if_neg (nb hi hL (j := 1) (y := 1) (by first | decide | simp) rfl), e2, bnd_some]
  exact (LTi e4 e5).trans hM
theorem LB_511 {xs : Nat → Int32} {L i B : Nat} {r28 : Int32 → Mem → Option (Int32 × Mem)} {M : Mem} (hI : Inv B M) (hB : B + 5000 < 2 ^ 30) (hi : i + 6 ≤ L) (hL : L ≤ 3072) (hr : ∀ M', Inv (B + 5000) M' → ∃ M'', r28 (nI i + 6) M' = some (1, M'')) : ∃ M'', f_L_law_511 xs L r28 (nI i) M = some (1, M'') := by
  obtain ⟨t, C, V, h⟩ := hI
  obtain ⟨v, M1, M2, e1, e2, e3⟩ := A_stop h
  obtain ⟨M'', hM⟩ := hr M2 (e3.up (by omega))
  refine ⟨M'', ?_⟩
  unfold f_L_law_511
  rw [e1, bnd_some, e2, bnd_some]
  exact LTI.trans hM
theorem LB_524 {xs : Nat → Int32} {L i B : Nat} {r28 : Int32 → Mem → Option (Int32 × Mem)} {M : Mem} (hI : Inv B M) (hB : B + 5000 < 2 ^ 30) (hi : i + 6 ≤ L) (hL : L ≤ 3072) (hr : ∀ M', Inv (B + 5000) M' → ∃ M'', r28 (nI i + 6) M' = some (1, M'')) : ∃ M'', f_L_law_524 xs L r28 (nI i) M = some (1, M'') := by
  obtain ⟨t, C, V, h⟩ := hI
  obtain ⟨r1, M2, r4, M5, e1, e2, e3, e4, e5⟩ := LXi (H := fun (e9 : Nat) (M2 : Mem) => if e9 = 3 then some (1, M2) else none) (A_take h) h1H
  obtain ⟨M'', hM⟩ := hr M5 (e3.up (by omega))
  refine ⟨M'', ?_⟩
  unfold f_L_law_524 f_L_take
  rw [e1, bnd_some, e2, bnd_some]
  exact (LTi e4 e5).trans hM
theorem LB_568 {xs : Nat → Int32} {L i B : Nat} {r28 : Int32 → Mem → Option (Int32 × Mem)} {M : Mem} (hI : Inv B M) (hB : B + 5000 < 2 ^ 30) (hi : i + 6 ≤ L) (hL : L ≤ 3072) (hr : ∀ M', Inv (B + 5000) M' → ∃ M'', r28 (nI i + 6) M' = some (1, M'')) : ∃ M'', f_L_law_568 xs L r28 (nI i) M = some (1, M'') := by
  obtain ⟨t, C, V, h⟩ := hI
  obtain ⟨r1, M2, r4, M5, e1, e2, e3, e4, e5⟩ := LXi (H := fun (e9 : Nat) (M2 : Mem) => if e9 = 2 then some (1, M2) else none) (A_acknowledge h (xs (Int32.toNatClampNeg (nI i + 1)))) h1H
  obtain ⟨M'', hM⟩ := hr M5 (e3.up (by omega))
  refine ⟨M'', ?_⟩
  unfold f_L_law_568 f_L_acknowledge
  rw [if_neg (nb hi hL (j := 1) (y := 1) (by first | decide | simp) rfl), e1, bnd_some, if_neg (nb hi hL (j := 1) (y := 1) (by first | decide | simp) rfl), e2, bnd_some]
  exact (LTi e4 e5).trans hM
theorem LB_624 {xs : Nat → Int32} {L i B : Nat} {r28 : Int32 → Mem → Option (Int32 × Mem)} {M : Mem} (hI : Inv B M) (hB : B + 5000 < 2 ^ 30) (hi : i + 6 ≤ L) (hL : L ≤ 3072) (hr : ∀ M', Inv (B + 5000) M' → ∃ M'', r28 (nI i + 6) M' = some (1, M'')) : ∃ M'', f_L_law_624 xs L r28 (nI i) M = some (1, M'') := by
  obtain ⟨t, C, V, h⟩ := hI
  obtain ⟨r1, M2, r4, M5, e1, e2, e3, e4, e5⟩ := LXi (H := fun (e9 : Nat) (M2 : Mem) => if e9 = 2 then some (1, M2) else if e9 = 1 then some (2, M2) else none) (A_setSignal h (xs (Int32.toNatClampNeg (nI i + 1))) (xs (Int32.toNatClampNeg (nI i + 2))) (xs (Int32.toNatClampNeg (nI i + 3))) (xs (Int32.toNatClampNeg (nI i + 4)))) h2H
  obtain ⟨M'', hM⟩ := hr M5 (e3.up (by omega))
  refine ⟨M'', ?_⟩
  unfold f_L_law_624 f_L_setSignal
  rw [if_neg (nb hi hL (j := 1) (y := 1) (by first | decide | simp) rfl), if_neg (nb hi hL (j := 2) (y := 2) (by first | decide | simp) rfl), if_neg (nb hi hL (j := 3) (y := 3) (by first | decide | simp) rfl), if_neg (nb hi hL (j := 4) (y := 4) (by first | decide | simp) rfl), e1, bnd_some, if_neg (nb hi hL (j := 1) (y := 1) (by first | decide | simp) rfl), if_neg (nb hi hL (j := 2) (y := 2) (by first | decide | simp) rfl), if_neg (nb hi hL (j := 3) (y := 3) (by first | decide | simp) rfl), if_neg (nb hi hL (j := 4) (y := 4) (by first | decide | simp) rfl), e2, bnd_some]
  exact (LTi e4 e5).trans hM
theorem LB_716 {xs : Nat → Int32} {L i B : Nat} {r28 : Int32 → Mem → Option (Int32 × Mem)} {M : Mem} (hI : Inv B M) (hB : B + 5000 < 2 ^ 30) (hi : i + 6 ≤ L) (hL : L ≤ 3072) (hr : ∀ M', Inv (B + 5000) M' → ∃ M'', r28 (nI i + 6) M' = some (1, M'')) : ∃ M'', f_L_law_716 xs L r28 (nI i) M = some (1, M'') := by
  obtain ⟨t, C, V, h⟩ := hI
  obtain ⟨r1, M2, r4, M5, e1, e2, e3, e4, e5⟩ := LXi (H := fun (e9 : Nat) (M2 : Mem) => if e9 = 2 then some (1, M2) else if e9 = 1 then some (2, M2) else none) (A_setSample h (xs (Int32.toNatClampNeg (nI i + 1))) (xs (Int32.toNatClampNeg (nI i + 2)))) h2H
  obtain ⟨M'', hM⟩ := hr M5 (e3.up (by omega))
  refine ⟨M'', ?_⟩
  unfold f_L_law_716 f_L_setSample
  rw [if_neg (nb hi hL (j := 1) (y := 1) (by first | decide | simp) rfl), if_neg (nb hi hL (j := 2) (y := 2) (by first | decide | simp) rfl), e1, bnd_some, if_neg (nb hi hL (j := 1) (y := 1) (by first | decide | simp) rfl), if_neg (nb hi hL (j := 2) (y := 2) (by first | decide | simp) rfl), e2, bnd_some]
  exact (LTi e4 e5).trans hM
theorem LB_784 {xs : Nat → Int32} {L i B : Nat} {r28 : Int32 → Mem → Option (Int32 × Mem)} {M : Mem} (hI : Inv B M) (hB : B + 5000 < 2 ^ 30) (hi : i + 6 ≤ L) (hL : L ≤ 3072) (hr : ∀ M', Inv (B + 5000) M' → ∃ M'', r28 (nI i + 6) M' = some (1, M'')) : ∃ M'', f_L_law_784 xs L r28 (nI i) M = some (1, M'') := by
  obtain ⟨t, C, V, h⟩ := hI
  obtain ⟨r1, M2, r4, M5, e1, e2, e3, e4, e5⟩ := LXi (H := fun (e9 : Nat) (M2 : Mem) => if e9 = 2 then some (1, M2) else if e9 = 1 then some (2, M2) else none) (A_setWindow h (xs (Int32.toNatClampNeg (nI i + 1))) (xs (Int32.toNatClampNeg (nI i + 2))) (xs (Int32.toNatClampNeg (nI i + 3)))) h2H
  obtain ⟨M'', hM⟩ := hr M5 (e3.up (by omega))
  refine ⟨M'', ?_⟩
  unfold f_L_law_784 f_L_setWindow
  rw [if_neg (nb hi hL (j := 1) (y := 1) (by first | decide | simp) rfl), if_neg (nb hi hL (j := 2) (y := 2) (by first | decide | simp) rfl), if_neg (nb hi hL (j := 3) (y := 3) (by first | decide | simp) rfl), e1, bnd_some, if_neg (nb hi hL (j := 1) (y := 1) (by first | decide | simp) rfl), if_neg (nb hi hL (j := 2) (y := 2) (by first | decide | simp) rfl), if_neg (nb hi hL (j := 3) (y := 3) (by first | decide | simp) rfl), e2, bnd_some]
  exact (LTi e4 e5).trans hM
theorem LB_864 {xs : Nat → Int32} {L i B : Nat} {r28 : Int32 → Mem → Option (Int32 × Mem)} {M : Mem} (hI : Inv B M) (hB : B + 5000 < 2 ^ 30) (hi : i + 6 ≤ L) (hL : L ≤ 3072) (hr : ∀ M', Inv (B + 5000) M' → ∃ M'', r28 (nI i + 6) M' = some (1, M'')) : ∃ M'', f_L_law_864 xs L r28 (nI i) M = some (1, M'') := by
  obtain ⟨t, C, V, h⟩ := hI
  obtain ⟨r1, M2, r4, M5, e1, e2, e3, e4, e5⟩ := LXi (H := fun (e9 : Nat) (M2 : Mem) => if e9 = 1 then some (1, M2) else none) (A_setPace h (xs (Int32.toNatClampNeg (nI i + 1)))) h1H
  obtain ⟨M'', hM⟩ := hr M5 (e3.up (by omega))
  refine ⟨M'', ?_⟩
  unfold f_L_law_864 f_L_setPace
  rw [if_neg (nb hi hL (j := 1) (y := 1) (by first | decide | simp) rfl), e1, bnd_some, if_neg (nb hi hL (j := 1) (y := 1) (by first | decide | simp) rfl), e2, bnd_some]
  exact (LTi e4 e5).trans hM
theorem LB_920 {xs : Nat → Int32} {L i B : Nat} {r28 : Int32 → Mem → Option (Int32 × Mem)} {M : Mem} (hI : Inv B M) (hB : B + 5000 < 2 ^ 30) (hi : i + 6 ≤ L) (hL : L ≤ 3072) (hr : ∀ M', Inv (B + 5000) M' → ∃ M'', r28 (nI i + 6) M' = some (1, M'')) : ∃ M'', f_L_law_920 xs L r28 (nI i) M = some (1, M'') := by
  obtain ⟨t, C, V, h⟩ := hI
  obtain ⟨r1, M2, r4, M5, e1, e2, e3, e4, e5⟩ := LXi (H := fun (e9 : Nat) (M2 : Mem) => if e9 = 1 then some (1, M2) else none) (A_state h (xs (Int32.toNatClampNeg (nI i + 1)))) h1H
  obtain ⟨M'', hM⟩ := hr M5 (e3.up (by omega))
  refine ⟨M'', ?_⟩
  unfold f_L_law_920 f_L_state
  rw [if_neg (nb hi hL (j := 1) (y := 1) (by first | decide | simp) rfl), e1, bnd_some, if_neg (nb hi hL (j := 1) (y := 1) (by first | decide | simp) rfl), e2, bnd_some]
  exact (LTi e4 e5).trans hM
theorem LB_976 {xs : Nat → Int32} {L i B : Nat} {r28 : Int32 → Mem → Option (Int32 × Mem)} {M : Mem} (hI : Inv B M) (hB : B + 5000 < 2 ^ 30) (hi : i + 6 ≤ L) (hL : L ≤ 3072) (hr : ∀ M', Inv (B + 5000) M' → ∃ M'', r28 (nI i + 6) M' = some (1, M'')) : ∃ M'', f_L_law_976 xs L r28 (nI i) M = some (1, M'') := by
  obtain ⟨t, C, V, h⟩ := hI
  by_cases hx : (xs (Int32.toNatClampNeg (nI i + 1))) = 0
  · obtain ⟨r1, M2, r4, M5, e1, e2, e3, e4, e5⟩ := LXi (H := fun (e9 : Nat) (M2 : Mem) => if e9 = 1 then some (1, M2) else none) (A_sequence h (s := 0) (by first | decide | simp) (xs (Int32.toNatClampNeg (nI i + 2)))) h1H
    rw [show nI 0 = (0 : Int32) from rfl] at e1 e2
    obtain ⟨M'', hM⟩ := hr M5 (e3.up (by omega))
    refine ⟨M'', ?_⟩
    unfold f_L_law_976
    rw [if_neg (nb hi hL (j := 1) (y := 1) (by first | decide | simp) rfl), if_pos hx]
    unfold f_L_law_991 f_L_sequence
    rw [if_neg (nb hi hL (j := 2) (y := 2) (by first | decide | simp) rfl), e1, bnd_some, if_neg (nb hi hL (j := 1) (y := 1) (by first | decide | simp) rfl), if_pos hx]
    unfold f_L_law_1018
    rw [if_neg (nb hi hL (j := 2) (y := 2) (by first | decide | simp) rfl), e2, bnd_some]
    exact (LTi e4 e5).trans hM
  · obtain ⟨r1, M2, r4, M5, e1, e2, e3, e4, e5⟩ := LXi (H := fun (e9 : Nat) (M2 : Mem) => if e9 = 1 then some (1, M2) else none) (A_sequence h (s := 1) (by first | decide | simp) (xs (Int32.toNatClampNeg (nI i + 2)))) h1H
    rw [show nI 1 = (1 : Int32) from rfl] at e1 e2
    obtain ⟨M'', hM⟩ := hr M5 (e3.up (by omega))
    refine ⟨M'', ?_⟩
    unfold f_L_law_976
    rw [if_neg (nb hi hL (j := 1) (y := 1) (by first | decide | simp) rfl), if_neg hx]
    unfold f_L_law_991 f_L_sequence
    rw [if_neg (nb hi hL (j := 2) (y := 2) (by first | decide | simp) rfl), e1, bnd_some, if_neg (nb hi hL (j := 1) (y := 1) (by first | decide | simp) rfl), if_neg hx]
    unfold f_L_law_1018
    rw [if_neg (nb hi hL (j := 2) (y := 2) (by first | decide | simp) rfl), e2, bnd_some]
    exact (LTi e4 e5).trans hM
theorem LB_1060 {xs : Nat → Int32} {L i B : Nat} {r28 : Int32 → Mem → Option (Int32 × Mem)} {M : Mem} (hI : Inv B M) (hB : B + 5000 < 2 ^ 30) (hi : i + 6 ≤ L) (hL : L ≤ 3072) (hr : ∀ M', Inv (B + 5000) M' → ∃ M'', r28 (nI i + 6) M' = some (1, M'')) : ∃ M'', f_L_law_1060 xs L r28 (nI i) M = some (1, M'') := by
  obtain ⟨t, C, V, h⟩ := hI
  by_cases hx : (xs (Int32.toNatClampNeg (nI i + 1))) = 0
  · obtain ⟨r1, M2, r4, M5, e1, e2, e3, e4, e5⟩ := LXi (H := fun (e9 : Nat) (M2 : Mem) => if e9 = 2 then some (1, M2) else none) (A_entry h (s := 0) (by first | decide | simp) (xs (Int32.toNatClampNeg (nI i + 2)))) h1H
    rw [show nI 0 = (0 : Int32) from rfl] at e1 e2
    obtain ⟨M'', hM⟩ := hr M5 (e3.up (by omega))
    refine ⟨M'', ?_⟩
    unfold f_L_law_1060
    rw [if_neg (nb hi hL (j := 1) (y := 1) (by first | decide | simp) rfl), if_pos hx]
    unfold f_L_law_1075 f_L_entry
    rw [if_neg (nb hi hL (j := 2) (y := 2) (by first | decide | simp) rfl), e1, bnd_some, if_neg (nb hi hL (j := 1) (y := 1) (by first | decide | simp) rfl), if_pos hx]
    unfold f_L_law_1102
    rw [if_neg (nb hi hL (j := 2) (y := 2) (by first | decide | simp) rfl), e2, bnd_some]
    exact (LTi e4 e5).trans hM
  · obtain ⟨r1, M2, r4, M5, e1, e2, e3, e4, e5⟩ := LXi (H := fun (e9 : Nat) (M2 : Mem) => if e9 = 2 then some (1, M2) else none) (A_entry h (s := 1) (by first | decide | simp) (xs (Int32.toNatClampNeg (nI i + 2)))) h1H
    rw [show nI 1 = (1 : Int32) from rfl] at e1 e2
    obtain ⟨M'', hM⟩ := hr M5 (e3.up (by omega))
    refine ⟨M'', ?_⟩
    unfold f_L_law_1060
    rw [if_neg (nb hi hL (j := 1) (y := 1) (by first | decide | simp) rfl), if_neg hx]
    unfold f_L_law_1075 f_L_entry
    rw [if_neg (nb hi hL (j := 2) (y := 2) (by first | decide | simp) rfl), e1, bnd_some, if_neg (nb hi hL (j := 1) (y := 1) (by first | decide | simp) rfl), if_neg hx]
    unfold f_L_law_1102
    rw [if_neg (nb hi hL (j := 2) (y := 2) (by first | decide | simp) rfl), e2, bnd_some]
    exact (LTi e4 e5).trans hM
theorem LB_1144 {xs : Nat → Int32} {L i B : Nat} {r28 : Int32 → Mem → Option (Int32 × Mem)} {M : Mem} (hI : Inv B M) (hB : B + 5000 < 2 ^ 30) (hi : i + 6 ≤ L) (hL : L ≤ 3072) (hr : ∀ M', Inv (B + 5000) M' → ∃ M'', r28 (nI i + 6) M' = some (1, M'')) : ∃ M'', f_L_law_1144 xs L r28 (nI i) M = some (1, M'') := by
  obtain ⟨t, C, V, h⟩ := hI
  obtain ⟨r1, M2, r4, M5, e1, e2, e3, e4, e5⟩ := LXi (H := fun (e9 : Nat) (M2 : Mem) => if e9 = 2 then some (1, M2) else if e9 = 1 then some (2, M2) else none) (A_channel h (xs (Int32.toNatClampNeg (nI i + 1))) (xs (Int32.toNatClampNeg (nI i + 2)))) h2H
  obtain ⟨M'', hM⟩ := hr M5 (e3.up (by omega))
  refine ⟨M'', ?_⟩
  unfold f_L_law_1144 f_L_channel
  rw [if_neg (nb hi hL (j := 1) (y := 1) (by first | decide | simp) rfl), if_neg (nb hi hL (j := 2) (y := 2) (by first | decide | simp) rfl), e1, bnd_some, if_neg (nb hi hL (j := 1) (y := 1) (by first | decide | simp) rfl), if_neg (nb hi hL (j := 2) (y := 2) (by first | decide | simp) rfl), e2, bnd_some]
  exact (LTi e4 e5).trans hM
theorem LB_1212 {xs : Nat → Int32} {L i B : Nat} {r28 : Int32 → Mem → Option (Int32 × Mem)} {M : Mem} (hI : Inv B M) (hB : B + 5000 < 2 ^ 30) (hi : i + 6 ≤ L) (hL : L ≤ 3072) (hr : ∀ M', Inv (B + 5000) M' → ∃ M'', r28 (nI i + 6) M' = some (1, M'')) : ∃ M'', f_L_law_1212 xs L r28 (nI i) M = some (1, M'') := by
  obtain ⟨t, C, V, h⟩ := hI
  obtain ⟨r1, M2, r4, M5, e1, e2, e3, e4, e5⟩ := LXl (H := fun (e9 : Nat) (M2 : Mem) => if e9 = 2 then some (1, M2) else none) (A_sum h (xs (Int32.toNatClampNeg (nI i + 1)))) h1H
  obtain ⟨M'', hM⟩ := hr M5 (e3.up (by omega))
  refine ⟨M'', ?_⟩
  unfold f_L_law_1212 f_L_sum
  rw [if_neg (nb hi hL (j := 1) (y := 1) (by first | decide | simp) rfl), e1, bnd_some, if_neg (nb hi hL (j := 1) (y := 1) (by first | decide | simp) rfl), e2, bnd_some]
  exact (LTi e4 e5).trans hM
theorem LB_1267 {xs : Nat → Int32} {L i B : Nat} {r28 : Int32 → Mem → Option (Int32 × Mem)} {M : Mem} (hI : Inv B M) (hB : B + 5000 < 2 ^ 30) (hi : i + 6 ≤ L) (hL : L ≤ 3072) (hr : ∀ M', Inv (B + 5000) M' → ∃ M'', r28 (nI i + 6) M' = some (1, M'')) : ∃ M'', f_L_law_1267 xs L r28 (nI i) M = some (1, M'') := by
  obtain ⟨t, C, V, h⟩ := hI
  obtain ⟨r1, M2, r4, M5, e1, e2, e3, e4, e5⟩ := LXd (H := fun (e9 : Nat) (M2 : Mem) => if e9 = 2 then some (1, M2) else if e9 = 3 then some (2, M2) else none) (A_mean h (xs (Int32.toNatClampNeg (nI i + 1)))) h2H
  obtain ⟨M'', hM⟩ := hr M5 (e3.up (by omega))
  refine ⟨M'', ?_⟩
  unfold f_L_law_1267 f_L_mean
  rw [if_neg (nb hi hL (j := 1) (y := 1) (by first | decide | simp) rfl), e1, bnd_some, if_neg (nb hi hL (j := 1) (y := 1) (by first | decide | simp) rfl), e2, bnd_some]
  exact (LTd e4 e5).trans hM
theorem LB_1344 {xs : Nat → Int32} {L i B : Nat} {r28 : Int32 → Mem → Option (Int32 × Mem)} {M : Mem} (hI : Inv B M) (hB : B + 5000 < 2 ^ 30) (hi : i + 6 ≤ L) (hL : L ≤ 3072) (hr : ∀ M', Inv (B + 5000) M' → ∃ M'', r28 (nI i + 6) M' = some (1, M'')) : ∃ M'', f_L_law_1344 xs L r28 (nI i) M = some (1, M'') := by
  obtain ⟨t, C, V, h⟩ := hI
  obtain ⟨r1, M2, r4, M5, e1, e2, e3, e4, e5⟩ := LXi (H := fun (e9 : Nat) (M2 : Mem) => if e9 = 2 then some (1, M2) else if e9 = 1 then some (2, M2) else none) (A_trigger h (xs (Int32.toNatClampNeg (nI i + 1))) (xs (Int32.toNatClampNeg (nI i + 2)))) h2H
  obtain ⟨M'', hM⟩ := hr M5 (e3.up (by omega))
  refine ⟨M'', ?_⟩
  unfold f_L_law_1344 f_L_trigger
  rw [if_neg (nb hi hL (j := 1) (y := 1) (by first | decide | simp) rfl), if_neg (nb hi hL (j := 2) (y := 2) (by first | decide | simp) rfl), e1, bnd_some, if_neg (nb hi hL (j := 1) (y := 1) (by first | decide | simp) rfl), if_neg (nb hi hL (j := 2) (y := 2) (by first | decide | simp) rfl), e2, bnd_some]
  exact (LTi e4 e5).trans hM
theorem LB_1412 {xs : Nat → Int32} {L i B : Nat} {r28 : Int32 → Mem → Option (Int32 × Mem)} {M : Mem} (hI : Inv B M) (hB : B + 5000 < 2 ^ 30) (hi : i + 6 ≤ L) (hL : L ≤ 3072) (hr : ∀ M', Inv (B + 5000) M' → ∃ M'', r28 (nI i + 6) M' = some (1, M'')) : ∃ M'', f_L_law_1412 xs L r28 (nI i) M = some (1, M'') := by
  obtain ⟨t, C, V, h⟩ := hI
  obtain ⟨r1, M2, r4, M5, e1, e2, e3, e4, e5⟩ := LXi (H := fun (e9 : Nat) (M2 : Mem) => if e9 = 2 then some (1, M2) else if e9 = 1 then some (2, M2) else none) (A_window h (xs (Int32.toNatClampNeg (nI i + 1))) (xs (Int32.toNatClampNeg (nI i + 2)))) h2H
  obtain ⟨M'', hM⟩ := hr M5 (e3.up (by omega))
  refine ⟨M'', ?_⟩
  unfold f_L_law_1412 f_L_window
  rw [if_neg (nb hi hL (j := 1) (y := 1) (by first | decide | simp) rfl), if_neg (nb hi hL (j := 2) (y := 2) (by first | decide | simp) rfl), e1, bnd_some, if_neg (nb hi hL (j := 1) (y := 1) (by first | decide | simp) rfl), if_neg (nb hi hL (j := 2) (y := 2) (by first | decide | simp) rfl), e2, bnd_some]
  exact (LTi e4 e5).trans hM
theorem LB_1480 {xs : Nat → Int32} {L i B : Nat} {r28 : Int32 → Mem → Option (Int32 × Mem)} {M : Mem} (hI : Inv B M) (hB : B + 5000 < 2 ^ 30) (hi : i + 6 ≤ L) (hL : L ≤ 3072) (hr : ∀ M', Inv (B + 5000) M' → ∃ M'', r28 (nI i + 6) M' = some (1, M'')) : ∃ M'', f_L_law_1480 xs L r28 (nI i) M = some (1, M'') := by
  obtain ⟨t, C, V, h⟩ := hI
  obtain ⟨r1, M2, r4, M5, e1, e2, e3, e4, e5⟩ := LXi (H := fun (e9 : Nat) (M2 : Mem) => if e9 = 2 then some (1, M2) else if e9 = 1 then some (2, M2) else none) (A_signal h (xs (Int32.toNatClampNeg (nI i + 1))) (xs (Int32.toNatClampNeg (nI i + 2)))) h2H
  obtain ⟨M'', hM⟩ := hr M5 (e3.up (by omega))
  refine ⟨M'', ?_⟩
  unfold f_L_law_1480 f_L_signal
  rw [if_neg (nb hi hL (j := 1) (y := 1) (by first | decide | simp) rfl), if_neg (nb hi hL (j := 2) (y := 2) (by first | decide | simp) rfl), e1, bnd_some, if_neg (nb hi hL (j := 1) (y := 1) (by first | decide | simp) rfl), if_neg (nb hi hL (j := 2) (y := 2) (by first | decide | simp) rfl), e2, bnd_some]
  exact (LTi e4 e5).trans hM
theorem LB_1548 {xs : Nat → Int32} {L i B : Nat} {r28 : Int32 → Mem → Option (Int32 × Mem)} {M : Mem} (hI : Inv B M) (hB : B + 5000 < 2 ^ 30) (hi : i + 6 ≤ L) (hL : L ≤ 3072) (hr : ∀ M', Inv (B + 5000) M' → ∃ M'', r28 (nI i + 6) M' = some (1, M'')) : ∃ M'', f_L_law_1548 xs L r28 (nI i) M = some (1, M'') := by
  obtain ⟨t, C, V, h⟩ := hI
  obtain ⟨r1, M2, r4, M5, e1, e2, e3, e4, e5⟩ := LXi (H := fun (e9 : Nat) (M2 : Mem) => if e9 = 3 then some (1, M2) else if e9 = 1 then some (2, M2) else none) (A_queued h (xs (Int32.toNatClampNeg (nI i + 1))) (xs (Int32.toNatClampNeg (nI i + 2)))) h2H
  obtain ⟨M'', hM⟩ := hr M5 (e3.up (by omega))
  refine ⟨M'', ?_⟩
  unfold f_L_law_1548 f_L_queued
  rw [if_neg (nb hi hL (j := 1) (y := 1) (by first | decide | simp) rfl), if_neg (nb hi hL (j := 2) (y := 2) (by first | decide | simp) rfl), e1, bnd_some, if_neg (nb hi hL (j := 1) (y := 1) (by first | decide | simp) rfl), if_neg (nb hi hL (j := 2) (y := 2) (by first | decide | simp) rfl), e2, bnd_some]
  exact (LTi e4 e5).trans hM
theorem LB_1616 {xs : Nat → Int32} {L i B : Nat} {r28 : Int32 → Mem → Option (Int32 × Mem)} {M : Mem} (hI : Inv B M) (hB : B + 5000 < 2 ^ 30) (hi : i + 6 ≤ L) (hL : L ≤ 3072) (hr : ∀ M', Inv (B + 5000) M' → ∃ M'', r28 (nI i + 6) M' = some (1, M'')) : ∃ M'', f_L_law_1616 xs L r28 (nI i) M = some (1, M'') := by
  obtain ⟨t, C, V, h⟩ := hI
  obtain ⟨r1, M2, r4, M5, e1, e2, e3, e4, e5⟩ := LXi (H := fun (e9 : Nat) (M2 : Mem) => if e9 = 3 then some (1, M2) else if e9 = 1 then some (2, M2) else none) (A_stored h (xs (Int32.toNatClampNeg (nI i + 1))) (xs (Int32.toNatClampNeg (nI i + 2)))) h2H
  obtain ⟨M'', hM⟩ := hr M5 (e3.up (by omega))
  refine ⟨M'', ?_⟩
  unfold f_L_law_1616 f_L_stored
  rw [if_neg (nb hi hL (j := 1) (y := 1) (by first | decide | simp) rfl), if_neg (nb hi hL (j := 2) (y := 2) (by first | decide | simp) rfl), e1, bnd_some, if_neg (nb hi hL (j := 1) (y := 1) (by first | decide | simp) rfl), if_neg (nb hi hL (j := 2) (y := 2) (by first | decide | simp) rfl), e2, bnd_some]
  exact (LTi e4 e5).trans hM
theorem LB_1684 {xs : Nat → Int32} {L i B : Nat} {r28 : Int32 → Mem → Option (Int32 × Mem)} {M : Mem} (hI : Inv B M) (hB : B + 5000 < 2 ^ 30) (hi : i + 6 ≤ L) (hL : L ≤ 3072) (hr : ∀ M', Inv (B + 5000) M' → ∃ M'', r28 (nI i + 6) M' = some (1, M'')) : ∃ M'', f_L_law_1684 xs L r28 (nI i) M = some (1, M'') := by
  obtain ⟨t, C, V, h⟩ := hI
  obtain ⟨v, M1, M2, e1, e2, e3⟩ := A_memorySize h
  obtain ⟨M'', hM⟩ := hr M2 (e3.up (by omega))
  refine ⟨M'', ?_⟩
  unfold f_L_law_1684
  rw [e1, bnd_some, e2, bnd_some]
  exact LTI.trans hM
theorem LB_1697 {xs : Nat → Int32} {L i B : Nat} {r28 : Int32 → Mem → Option (Int32 × Mem)} {M : Mem} (hI : Inv B M) (hB : B + 5000 < 2 ^ 30) (hi : i + 6 ≤ L) (hL : L ≤ 3072) (hr : ∀ M', Inv (B + 5000) M' → ∃ M'', r28 (nI i + 6) M' = some (1, M'')) : ∃ M'', f_L_law_1697 xs L r28 (nI i) M = some (1, M'') := by
  obtain ⟨t, C, V, h⟩ := hI
  obtain ⟨r1, M2, r4, M5, e1, e2, e3, e4, e5⟩ := LXi (H := fun (e9 : Nat) (M2 : Mem) => if e9 = 2 then some (1, M2) else if e9 = 1 then some (2, M2) else if e9 = 3 then some (3, M2) else none) (A_injected h (xs (Int32.toNatClampNeg (nI i + 1))) (xs (Int32.toNatClampNeg (nI i + 2)))) h3H
  obtain ⟨M'', hM⟩ := hr M5 (e3.up (by omega))
  refine ⟨M'', ?_⟩
  unfold f_L_law_1697 f_L_injected
  rw [if_neg (nb hi hL (j := 1) (y := 1) (by first | decide | simp) rfl), if_neg (nb hi hL (j := 2) (y := 2) (by first | decide | simp) rfl), e1, bnd_some, if_neg (nb hi hL (j := 1) (y := 1) (by first | decide | simp) rfl), if_neg (nb hi hL (j := 2) (y := 2) (by first | decide | simp) rfl), e2, bnd_some]
  exact (LTi e4 e5).trans hM
theorem LB_1765 {xs : Nat → Int32} {L i B : Nat} {r28 : Int32 → Mem → Option (Int32 × Mem)} {M : Mem} (hI : Inv B M) (hB : B + 5000 < 2 ^ 30) (hi : i + 6 ≤ L) (hL : L ≤ 3072) (hr : ∀ M', Inv (B + 5000) M' → ∃ M'', r28 (nI i + 6) M' = some (1, M'')) : ∃ M'', f_L_law_1765 xs L r28 (nI i) M = some (1, M'') := by
  obtain ⟨t, C, V, h⟩ := hI
  by_cases hx : (xs (Int32.toNatClampNeg (nI i + 1))) = 0
  · obtain ⟨r1, M2, r4, M5, e1, e2, e3, e4, e5⟩ := LXd (H := fun (e9 : Nat) (M2 : Mem) => if e9 = 3 then some (1, M2) else none) (A_latency h (s := 0) (by first | decide | simp) ) h1H
    rw [show nI 0 = (0 : Int32) from rfl] at e1 e2
    obtain ⟨M'', hM⟩ := hr M5 (e3.up (by omega))
    refine ⟨M'', ?_⟩
    unfold f_L_law_1765
    rw [if_neg (nb hi hL (j := 1) (y := 1) (by first | decide | simp) rfl), if_pos hx]
    unfold f_L_law_1780 f_L_latency
    rw [e1, bnd_some, if_neg (nb hi hL (j := 1) (y := 1) (by first | decide | simp) rfl), if_pos hx]
    unfold f_L_law_1802
    rw [e2, bnd_some]
    exact (LTd e4 e5).trans hM
  · obtain ⟨r1, M2, r4, M5, e1, e2, e3, e4, e5⟩ := LXd (H := fun (e9 : Nat) (M2 : Mem) => if e9 = 3 then some (1, M2) else none) (A_latency h (s := 1) (by first | decide | simp) ) h1H
    rw [show nI 1 = (1 : Int32) from rfl] at e1 e2
    obtain ⟨M'', hM⟩ := hr M5 (e3.up (by omega))
    refine ⟨M'', ?_⟩
    unfold f_L_law_1765
    rw [if_neg (nb hi hL (j := 1) (y := 1) (by first | decide | simp) rfl), if_neg hx]
    unfold f_L_law_1780 f_L_latency
    rw [e1, bnd_some, if_neg (nb hi hL (j := 1) (y := 1) (by first | decide | simp) rfl), if_neg hx]
    unfold f_L_law_1802
    rw [e2, bnd_some]
    exact (LTd e4 e5).trans hM
theorem LB_1858 {xs : Nat → Int32} {L i B : Nat} {r28 : Int32 → Mem → Option (Int32 × Mem)} {M : Mem} (hI : Inv B M) (hB : B + 5000 < 2 ^ 30) (hi : i + 6 ≤ L) (hL : L ≤ 3072) (hr : ∀ M', Inv (B + 5000) M' → ∃ M'', r28 (nI i + 6) M' = some (1, M'')) : ∃ M'', f_L_law_1858 xs L r28 (nI i) M = some (1, M'') := by
  obtain ⟨t, C, V, h⟩ := hI
  obtain ⟨r1, M2, r4, M5, e1, e2, e3, e4, e5⟩ := LXi (H := fun (e9 : Nat) (M2 : Mem) => if e9 = 1 then some (1, M2) else none) (A_nextResult h hB (xs (Int32.toNatClampNeg (nI i + 1)))) h1H
  obtain ⟨M'', hM⟩ := hr M5 (e3.up (by omega))
  refine ⟨M'', ?_⟩
  unfold f_L_law_1858 f_L_nextResult
  rw [if_neg (nb hi hL (j := 1) (y := 1) (by first | decide | simp) rfl), e1, bnd_some, if_neg (nb hi hL (j := 1) (y := 1) (by first | decide | simp) rfl), e2, bnd_some]
  exact (LTi e4 e5).trans hM
theorem LB_1914 {xs : Nat → Int32} {L i B : Nat} {r28 : Int32 → Mem → Option (Int32 × Mem)} {M : Mem} (hI : Inv B M) (hB : B + 5000 < 2 ^ 30) (hi : i + 6 ≤ L) (hL : L ≤ 3072) (hr : ∀ M', Inv (B + 5000) M' → ∃ M'', r28 (nI i + 6) M' = some (1, M'')) : ∃ M'', f_L_law_1914 xs L r28 (nI i) M = some (1, M'') := by
  obtain ⟨t, C, V, h⟩ := hI
  obtain ⟨r1, M2, r4, M5, e1, e2, e3, e4, e5⟩ := LXi (H := fun (e9 : Nat) (M2 : Mem) => if e9 = 2 then some (1, M2) else if e9 = 1 then some (2, M2) else none) (A_whenRaised h hB (xs (Int32.toNatClampNeg (nI i + 1))) (xs (Int32.toNatClampNeg (nI i + 2)))) h2H
  obtain ⟨M'', hM⟩ := hr M5 (e3.up (by omega))
  refine ⟨M'', ?_⟩
  unfold f_L_law_1914 f_L_whenRaised
  rw [if_neg (nb hi hL (j := 1) (y := 1) (by first | decide | simp) rfl), if_neg (nb hi hL (j := 2) (y := 2) (by first | decide | simp) rfl), e1, bnd_some, if_neg (nb hi hL (j := 1) (y := 1) (by first | decide | simp) rfl), if_neg (nb hi hL (j := 2) (y := 2) (by first | decide | simp) rfl), e2, bnd_some]
  exact (LTi e4 e5).trans hM
theorem LB_1982 {xs : Nat → Int32} {L i B : Nat} {r28 : Int32 → Mem → Option (Int32 × Mem)} {M : Mem} (hI : Inv B M) (hB : B + 5000 < 2 ^ 30) (hi : i + 6 ≤ L) (hL : L ≤ 3072) (hr : ∀ M', Inv (B + 5000) M' → ∃ M'', r28 (nI i + 6) M' = some (1, M'')) : ∃ M'', f_L_law_1982 xs L r28 (nI i) M = some (1, M'') := by
  obtain ⟨t, C, V, h⟩ := hI
  obtain ⟨r1, M2, r4, M5, e1, e2, e3, e4, e5⟩ := LXi (H := fun (e9 : Nat) (M2 : Mem) => if e9 = 1 then some (1, M2) else none) (A_overrunsWith h hB (xs (Int32.toNatClampNeg (nI i + 1))) (xs (Int32.toNatClampNeg (nI i + 2)))) h1H
  obtain ⟨M'', hM⟩ := hr M5 (e3.up (by omega))
  refine ⟨M'', ?_⟩
  unfold f_L_law_1982 f_L_overrunsWith
  rw [if_neg (nb hi hL (j := 1) (y := 1) (by first | decide | simp) rfl), if_neg (nb hi hL (j := 2) (y := 2) (by first | decide | simp) rfl), e1, bnd_some, if_neg (nb hi hL (j := 1) (y := 1) (by first | decide | simp) rfl), if_neg (nb hi hL (j := 2) (y := 2) (by first | decide | simp) rfl), e2, bnd_some]
  exact (LTi e4 e5).trans hM
theorem LB_2050 {xs : Nat → Int32} {L i B : Nat} {r28 : Int32 → Mem → Option (Int32 × Mem)} {M : Mem} (hI : Inv B M) (hB : B + 5000 < 2 ^ 30) (hi : i + 6 ≤ L) (hL : L ≤ 3072) (hr : ∀ M', Inv (B + 5000) M' → ∃ M'', r28 (nI i + 6) M' = some (1, M'')) : ∃ M'', f_L_law_2050 xs L r28 (nI i) M = some (1, M'') := by
  obtain ⟨t, C, V, h⟩ := hI
  obtain ⟨r1, M2, r4, M5, e1, e2, e3, e4, e5⟩ := LXi (H := fun (e9 : Nat) (M2 : Mem) => if e9 = 1 then some (1, M2) else none) (A_slowestPace h hB (xs (Int32.toNatClampNeg (nI i + 1)))) h1H
  obtain ⟨M'', hM⟩ := hr M5 (e3.up (by omega))
  refine ⟨M'', ?_⟩
  unfold f_L_law_2050 f_L_slowestPace
  rw [if_neg (nb hi hL (j := 1) (y := 1) (by first | decide | simp) rfl), e1, bnd_some, if_neg (nb hi hL (j := 1) (y := 1) (by first | decide | simp) rfl), e2, bnd_some]
  exact (LTi e4 e5).trans hM
theorem LB_2106 {xs : Nat → Int32} {L i B : Nat} {r28 : Int32 → Mem → Option (Int32 × Mem)} {M : Mem} (hI : Inv B M) (hB : B + 5000 < 2 ^ 30) (hi : i + 6 ≤ L) (hL : L ≤ 3072) (hr : ∀ M', Inv (B + 5000) M' → ∃ M'', r28 (nI i + 6) M' = some (1, M'')) : ∃ M'', f_L_law_2106 xs L r28 (nI i) M = some (1, M'') := by
  obtain ⟨t, C, V, h⟩ := hI
  by_cases hx : (xs (Int32.toNatClampNeg (nI i + 1))) = 0
  · obtain ⟨v, M1, M2, e1, e2, e3⟩ := A_passLength h (s := 0) (by first | decide | simp)
    rw [show nI 0 = (0 : Int32) from rfl] at e1 e2
    obtain ⟨M'', hM⟩ := hr M2 (e3.up (by omega))
    refine ⟨M'', ?_⟩
    unfold f_L_law_2106
    rw [if_neg (nb hi hL (j := 1) (y := 1) (by first | decide | simp) rfl), if_pos hx]
    unfold f_L_law_2121
    rw [e1, bnd_some, if_neg (nb hi hL (j := 1) (y := 1) (by first | decide | simp) rfl), if_pos hx]
    unfold f_L_law_2139
    rw [e2, bnd_some]
    exact LTI.trans hM
  · obtain ⟨v, M1, M2, e1, e2, e3⟩ := A_passLength h (s := 1) (by first | decide | simp)
    rw [show nI 1 = (1 : Int32) from rfl] at e1 e2
    obtain ⟨M'', hM⟩ := hr M2 (e3.up (by omega))
    refine ⟨M'', ?_⟩
    unfold f_L_law_2106
    rw [if_neg (nb hi hL (j := 1) (y := 1) (by first | decide | simp) rfl), if_neg hx]
    unfold f_L_law_2121
    rw [e1, bnd_some, if_neg (nb hi hL (j := 1) (y := 1) (by first | decide | simp) rfl), if_neg hx]
    unfold f_L_law_2139
    rw [e2, bnd_some]
    exact LTI.trans hM
theorem LB_2147 {xs : Nat → Int32} {L i B : Nat} {r28 : Int32 → Mem → Option (Int32 × Mem)} {M : Mem} (hI : Inv B M) (hB : B + 5000 < 2 ^ 30) (hi : i + 6 ≤ L) (hL : L ≤ 3072) (hr : ∀ M', Inv (B + 5000) M' → ∃ M'', r28 (nI i + 6) M' = some (1, M'')) : ∃ M'', f_L_law_2147 xs L r28 (nI i) M = some (1, M'') := by
  obtain ⟨t, C, V, h⟩ := hI
  obtain ⟨r1, M2, r4, M5, e1, e2, e3, e4, e5⟩ := LXi (H := fun (e9 : Nat) (M2 : Mem) => if e9 = 1 then some (1, M2) else none) (A_save h (xs (Int32.toNatClampNeg (nI i + 1)))) h1H
  obtain ⟨M'', hM⟩ := hr M5 (e3.up (by omega))
  refine ⟨M'', ?_⟩
  unfold f_L_law_2147 f_L_save
  rw [if_neg (nb hi hL (j := 1) (y := 1) (by first | decide | simp) rfl), e1, bnd_some, if_neg (nb hi hL (j := 1) (y := 1) (by first | decide | simp) rfl), e2, bnd_some]
  exact (LTi e4 e5).trans hM
theorem LB_2203 {xs : Nat → Int32} {L i B : Nat} {r28 : Int32 → Mem → Option (Int32 × Mem)} {M : Mem} (hI : Inv B M) (hB : B + 5000 < 2 ^ 30) (hi : i + 6 ≤ L) (hL : L ≤ 3072) (hr : ∀ M', Inv (B + 5000) M' → ∃ M'', r28 (nI i + 6) M' = some (1, M'')) : ∃ M'', f_L_law_2203 xs L r28 (nI i) M = some (1, M'') := by
  obtain ⟨t, C, V, h⟩ := hI
  obtain ⟨r1, M2, r4, M5, e1, e2, e3, e4, e5⟩ := LXi (H := fun (e9 : Nat) (M2 : Mem) => if e9 = 1 then some (1, M2) else if e9 = 0 then some (2, M2) else none) (A_restore h (xs (Int32.toNatClampNeg (nI i + 1)))) h2H
  obtain ⟨M'', hM⟩ := hr M5 (e3.up (by omega))
  refine ⟨M'', ?_⟩
  unfold f_L_law_2203 f_L_restore
  rw [if_neg (nb hi hL (j := 1) (y := 1) (by first | decide | simp) rfl), e1, bnd_some, if_neg (nb hi hL (j := 1) (y := 1) (by first | decide | simp) rfl), e2, bnd_some]
  exact (LTi e4 e5).trans hM
theorem iex {c : Prop} {d : Decidable c} {a b : Option (Int32 × Mem)} (h1 : c → ∃ M'', a = some (1, M'')) (h2 : ¬ c → ∃ M'', b = some (1, M'')) : ∃ M'', (@ite _ c d a b) = some (1, M'') := by
  by_cases q : c
  · rw [if_pos q]; exact h1 q
  · rw [if_neg q]; exact h2 q
theorem lp_in {i L : Nat} (h : i + 6 ≤ L) (hL : L ≤ 3072) : ¬ (nI L - 6 < nI i) := by
  have e : nI L - 6 = nI (L - 6) := by
    have q : nI (L - 6) + nI 6 = nI L := by rw [nI_add, show L - 6 + 6 = L by omega]
    rw [← q]
    exact Int32.add_sub_cancel _ _
  rw [e]
  exact Int32.not_lt.mpr (nI_le (by omega) (by omega))
theorem lp_out {i L : Nat} (h : L < i + 6) (hL : L ≤ 3072) (hi : i < 2 ^ 30) : nI L - 6 < nI i := by
  by_cases q : 6 ≤ L
  · have e : nI L - 6 = nI (L - 6) := by
      have q : nI (L - 6) + nI 6 = nI L := by rw [nI_add, show L - 6 + 6 = L by omega]
      rw [← q]
      exact Int32.add_sub_cancel _ _
    rw [e]
    exact Int32.not_le.mp (nI_ge (by omega) (by omega))
  · have n : nI L - 6 < 0 := by
      rcases (show L = 0 ∨ L = 1 ∨ L = 2 ∨ L = 3 ∨ L = 4 ∨ L = 5 by omega) with rfl | rfl | rfl | rfl | rfl | rfl <;> decide
    exact Int32.not_le.mp (fun z => absurd n (Int32.not_lt.mpr (Int32.le_trans (nI_pos' (by omega)) z)))
set_option maxHeartbeats 4000000 in
set_option maxRecDepth 100000 in
theorem LAW {xs : Nat → Int32} {L : Nat} (hL : L ≤ 3072) : ∀ (n i B : Nat) (M : Mem), Inv B M → B + 5000 * n < 2 ^ 30 → i ≤ 4000 → 0 < n → L < i + 6 * n → ∃ M'', f_L_law_28 xs L n (nI i) M = some (1, M'') := by
  intro n
  induction n with
  | zero => intro i B M hI hB hi h0; omega
  | succ n ih =>
    intro i B M hI hB hi h0 hf
    rw [show f_L_law_28 xs L (n + 1) (nI i) M = _ from Eq.trans (by unfold f_L_law_28; exact rfl) rfl]
    by_cases q : L < i + 6
    · exact ⟨M, by rw [if_pos (lp_out q hL (by omega))]⟩
    · have hi6 : i + 6 ≤ L := by omega
      have h5 : B + 5000 < 2 ^ 30 := by omega
      have hr : ∀ M', Inv (B + 5000) M' → ∃ M'', f_L_law_28 xs L n (nI i + 6) M' = some (1, M'') := fun M' hM' => by
        rw [show nI i + 6 = nI (i + 6) from nI_add _ _]
        exact ih (i + 6) (B + 5000) M' hM' (by omega) (by omega) (by omega) (by omega)
      rw [if_neg (lp_in hi6 hL), if_neg (nbad (by omega) (by omega))]
      refine iex (fun _ => LB_200 hI h5 hi6 hL hr) (fun _ => ?_)
      refine iex (fun _ => LB_304 hI h5 hi6 hL hr) (fun _ => ?_)
      refine iex (fun _ => LB_360 hI h5 hi6 hL hr) (fun _ => ?_)
      refine iex (fun _ => LB_373 hI h5 hi6 hL hr) (fun _ => ?_)
      refine iex (fun _ => LB_386 hI h5 hi6 hL hr) (fun _ => ?_)
      refine iex (fun _ => LB_399 hI h5 hi6 hL hr) (fun _ => ?_)
      refine iex (fun _ => LB_455 hI h5 hi6 hL hr) (fun _ => ?_)
      refine iex (fun _ => LB_511 hI h5 hi6 hL hr) (fun _ => ?_)
      refine iex (fun _ => LB_524 hI h5 hi6 hL hr) (fun _ => ?_)
      refine iex (fun _ => LB_568 hI h5 hi6 hL hr) (fun _ => ?_)
      refine iex (fun _ => LB_624 hI h5 hi6 hL hr) (fun _ => ?_)
      refine iex (fun _ => LB_716 hI h5 hi6 hL hr) (fun _ => ?_)
      refine iex (fun _ => LB_784 hI h5 hi6 hL hr) (fun _ => ?_)
      refine iex (fun _ => LB_864 hI h5 hi6 hL hr) (fun _ => ?_)
      refine iex (fun _ => LB_920 hI h5 hi6 hL hr) (fun _ => ?_)
      refine iex (fun _ => LB_976 hI h5 hi6 hL hr) (fun _ => ?_)
      refine iex (fun _ => LB_1060 hI h5 hi6 hL hr) (fun _ => ?_)
      refine iex (fun _ => LB_1144 hI h5 hi6 hL hr) (fun _ => ?_)
      refine iex (fun _ => LB_1212 hI h5 hi6 hL hr) (fun _ => ?_)
      refine iex (fun _ => LB_1267 hI h5 hi6 hL hr) (fun _ => ?_)
      refine iex (fun _ => LB_1344 hI h5 hi6 hL hr) (fun _ => ?_)
      refine iex (fun _ => LB_1412 hI h5 hi6 hL hr) (fun _ => ?_)
      refine iex (fun _ => LB_1480 hI h5 hi6 hL hr) (fun _ => ?_)
      refine iex (fun _ => LB_1548 hI h5 hi6 hL hr) (fun _ => ?_)
      refine iex (fun _ => LB_1616 hI h5 hi6 hL hr) (fun _ => ?_)
      refine iex (fun _ => LB_1684 hI h5 hi6 hL hr) (fun _ => ?_)
      refine iex (fun _ => LB_1697 hI h5 hi6 hL hr) (fun _ => ?_)
      refine iex (fun _ => LB_1765 hI h5 hi6 hL hr) (fun _ => ?_)
      refine iex (fun _ => LB_1858 hI h5 hi6 hL hr) (fun _ => ?_)
      refine iex (fun _ => LB_1914 hI h5 hi6 hL hr) (fun _ => ?_)
      refine iex (fun _ => LB_1982 hI h5 hi6 hL hr) (fun _ => ?_)
      refine iex (fun _ => LB_2050 hI h5 hi6 hL hr) (fun _ => ?_)
      refine iex (fun _ => LB_2106 hI h5 hi6 hL hr) (fun _ => ?_)
      refine iex (fun _ => LB_2147 hI h5 hi6 hL hr) (fun _ => ?_)
      refine iex (fun _ => LB_2203 hI h5 hi6 hL hr) (fun _ => ?_)
      exact hr M (hI.up (by omega))
