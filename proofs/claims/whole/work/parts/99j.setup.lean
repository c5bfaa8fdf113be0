/-! ===== setup ===== -/
theorem idl_v {b : Cl} (h1 : idl b = true) (h2 : inR b = true) : vld b := by
  have le : ∀ {a b : Nat}, Nat.ble a b = true → a ≤ b := fun h => Nat.le_of_ble_eq_true h
  have lt : ∀ {a b : Nat}, Nat.blt a b = true → a < b := fun h => Nat.le_of_ble_eq_true h
  have eq : ∀ {a b : Nat}, Nat.beq a b = true → a = b := fun h => Nat.eq_of_beq_eq_true h
  obtain ⟨a, f, j⟩ := b
  unfold idl at h1
  split at h1
  · rename_i e; simp only [Prod.mk.injEq] at e; obtain ⟨e1, e2, e3⟩ := e; subst e1 e2 e3
    have z1 := eq h1; have z2 := eq (show Nat.beq j 0 = true from h2); subst z1 z2
    exact v1 (by first | decide | simp)
  · rename_i e; simp only [Prod.mk.injEq] at e; obtain ⟨e1, e2, e3⟩ := e; subst e1 e2 e3
    have z1 := eq h1; have z2 := eq (show Nat.beq j 0 = true from h2); subst z1 z2
    exact v2 (by first | decide | simp) (by first | decide | simp)
  · rename_i e; simp only [Prod.mk.injEq] at e; obtain ⟨e1, e2, e3⟩ := e; subst e1 e2 e3
    have z2 := lt (show Nat.blt j 2 = true from h2)
    rcases (show f = 4 ∨ f = 5 by simpa using h1) with rfl | rfl
    · exact v4 (by omega) (by first | decide | simp) (by first | decide | simp)
    · exact v4 (by omega) (by first | decide | simp) (by first | decide | simp)
  · rename_i e; simp only [Prod.mk.injEq] at e; obtain ⟨e1, e2, e3⟩ := e; subst e1 e2 e3
    have z2 := lt (show Nat.blt j 2 = true from h2)
    have hf : 1 ≤ f ∧ f < 12 := by
      simp only [Bool.or_eq_true] at h1
      rcases h1 with ((h1 | h1) | h1) | h1 <;> (have := eq h1; omega)
    exact v5 z2 hf.1 hf.2
  · rename_i e; simp only [Prod.mk.injEq] at e; obtain ⟨e1, e2, e3⟩ := e; subst e1 e2 e3
    have z2 := lt (show Nat.blt j 3 = true from h2)
    exact v8 z2 (by have := le (bT h1).2; omega)
  · cases h1
theorem ini_St {L : LM} (hL : ∀ x, vldX x → L.1 x = iniL x) (hmk : MkC L) : St L := by
  have l : ∀ x, vld x → L.1 x = iniL x := fun x hx => hL x (Or.inl hx)
  refine ⟨fun j hj => ⟨0, Nat.zero_le _, l _ (v5 hj (by first | decide | simp) (by first | decide | simp))⟩, fun j k hj hk => ⟨0, by decide, l _ (v20 hj hk)⟩, ⟨0, by decide, l _ (v5 (by first | decide | simp) (by first | decide | simp) (by first | decide | simp))⟩, l _ (v5 (by first | decide | simp) (by first | decide | simp) (by first | decide | simp)), ⟨0, by decide, l _ (v2 (by first | decide | simp) (by first | decide | simp))⟩, Or.inl (l _ (v2 (by first | decide | simp) (by first | decide | simp))), Or.inl (l _ (v2 (by first | decide | simp) (by first | decide | simp))), Or.inl (l _ (v2 (by first | decide | simp) (by first | decide | simp))), ⟨4, by decide, by decide, l _ (v4 (by first | decide | simp) (by first | decide | simp) (by first | decide | simp))⟩, Or.inl (l _ (v4 (by first | decide | simp) (by first | decide | simp) (by first | decide | simp))),
    fun t ht => ⟨Or.inl (l _ (v7 ht (by first | decide | simp))), ⟨0, by decide, l _ (v7 ht (by first | decide | simp))⟩, ⟨0, by decide, l _ (v7 ht (by first | decide | simp))⟩⟩, fun w hw => ⟨Or.inl (l _ (v8 hw (by first | decide | simp))), fun _ => l _ (v8 hw (by first | decide | simp))⟩, fun c hc => ⟨1, by decide, by decide, l _ (v0 hc (by first | decide | simp))⟩, hmk, l _ (v4 (by first | decide | simp) (by first | decide | simp) (by first | decide | simp)), l _ (v4 (by first | decide | simp) (by first | decide | simp) (by first | decide | simp)), ⟨0, by decide, l _ (v2 (by first | decide | simp) (by first | decide | simp))⟩, l _ (v4 (by first | decide | simp) (by first | decide | simp) (by first | decide | simp))⟩
theorem idV_sp {b : Cl} (h : idV b = true) : sp b = true := by
  obtain ⟨a, f, j⟩ := b
  unfold idV at h
  split at h
  · rename_i e; simp only [Prod.mk.injEq] at e; obtain ⟨e1, e2, e3⟩ := e; subst e1 e2 e3
    exact h
  · rename_i e; simp only [Prod.mk.injEq] at e; obtain ⟨e1, e2, e3⟩ := e; subst e1 e2 e3
    rfl
  · cases h
/-- the draft as at first on both sides -/
theorem ini_Q {β σ : Nat} {N : Mem} {L V0 : LM} (hL : ∀ x, vldX x → L.1 x = iniL x) (hL2 : ∀ x, vldL x → L.2 x = 0) (hmk : MkC L) (hM : hasM β σ N V0) (a : ∀ j, j < 472 → V0.1 (cA j) = if sp (cA j) = false then iniL (cA j) else 0) (s : ∀ j, j < 52 → V0.1 (cS j) = iniL (cS j)) (l : ∀ j, j < 10 → V0.2 (cL j) = 0) : ∃ V, hasM β σ N V ∧ Q L V := by
  refine ⟨(fun x => if sp x = false then L.1 x else 0, L.2), ?_, ⟨fun x hx => if_pos hx, rfl⟩, ini_St hL hmk, fun b h1 h2 => hL b (Or.inl (idl_v h1 h2)), fun b h1 _ => if_neg (by rw [idV_sp h1]; decide)⟩
  have e := putM_congr (β := β) (σ := σ) (M := N) (V := V0) (V' := (fun x => if sp x = false then L.1 x else 0, L.2)) (fun i hi => ?_) (fun i hi => ?_) (fun i hi => ?_)
  · unfold hasM at hM ⊢
    rw [e, hM]
  · rw [a i hi]
    dsimp only
    by_cases q : sp (cA i) = false
    · rw [if_pos q, if_pos q]
      exact hL _ (vldB_X ((mapA i hi).resolve_left (by rw [q]; decide)))
    · rw [if_neg q, if_neg q]
  · rw [s i hi]
    dsimp only
    rw [if_pos (mapS i hi).1]
    exact hL _ (vldB_X (mapS i hi).2.1)
  · rw [l i hi]
    exact hL2 _ (mapL i hi)
theorem bz_ini {M : Mem} (l : ∀ x, vld x → M.1 (x.1, 0, x.2.2) x.2.1 = iniL x) : BzC 0 M := by
  refine ⟨fun w hw => ⟨Or.inl (l (8, 0, w) (v8 hw (by first | decide | simp))), Or.inl (l (8, 6, w) (v8 hw (by first | decide | simp)))⟩, fun j hj => Or.inl (l (5, 3, j) (v5 hj (by first | decide | simp) (by first | decide | simp))), fun j hj => ?_, Or.inl (l (2, 9, 0) (v2 (by first | decide | simp) (by first | decide | simp))), Or.inl (l (2, 10, 0) (v2 (by first | decide | simp) (by first | decide | simp))), Or.inl (l (2, 11, 0) (v2 (by first | decide | simp) (by first | decide | simp)))⟩
  have e := l (4, 3, j) (v4 hj (by first | decide | simp) (by first | decide | simp))
  rcases (show j = 0 ∨ j = 1 ∨ j = 2 by omega) with rfl | rfl | rfl
  · exact Or.inl e
  · exact Or.inr e
  · exact Or.inl e
theorem C_start {M : Mem} (hs5 : ∀ x, vld x → M.1 (x.1, 0, x.2.2) x.2.1 = iniL x) (hs6 : ∀ x, vldL x → M.2.1 (x.1, 0, x.2.2) x.2.1 = 0) (hm : Msk M) : ∃ M2 L0, f_X3_copyFrom 2 0 M = some ((), M2) ∧ hasC 2 M2 L0 ∧ (∀ x, vldX x → L0.1 x = iniL x) ∧ (∀ x, vldL x → L0.2 x = 0) ∧ MkC L0 ∧ (∀ o k, (o.2.1 ≠ 2 ∨ cvK o.1 = false ∨ (o.1 = 4 ∧ k = 1)) → M2.1 o k = M.1 o k) ∧ (∀ o k, (o.2.1 ≠ 2 ∨ cvK o.1 = false) → M2.2.1 o k = M.2.1 o k) ∧ M2.2.2 = M.2.2 := by
  obtain ⟨M2, e1, k1, k2, k3, k4, k5, k6, k7⟩ := cp_X3 (a := 2) (c := 0) (M := M) (by first | decide | simp) (bz_ini hs5)
  have hx : ∀ x : Cl, cvK x.1 = true → ¬ (x.1 = 30 ∨ x.1 = 31) := by
    rintro x hx (q | q) <;> (rw [q] at hx; cases hx)
  have m41 : ∀ o k, o.2.1 = 2 → (o.1 = 4 ∧ k = 1) → M2.1 o k = M.1 o k := fun o k q1 q2 => (k3 o k q1).resolve_right (fun z => z.2 q2)
  refine ⟨M2, (fun x => if x.1 = 30 ∨ x.1 = 31 then 0 else M2.1 (x.1, 2, x.2.2) x.2.1, fun x => M2.2.1 (x.1, 2, x.2.2) x.2.1), e1, hasC.view (fun x hx' => if_neg (hx x hx')) (fun x _ => rfl), fun x hx' => ?_, fun x hx' => ?_, fun j hj => ?_, fun o k q => ?_, fun o k q => k5 o k q, k7⟩
  · obtain ⟨x1, x2, x3⟩ := x
    rcases hx' with q | q | q
    · dsimp only
      rw [if_neg (hx (x1, x2, x3) (vld_cv q)), k1 (x1, 2, x3) x2 rfl q]
      exact hs5 (x1, x2, x3) q
    · have q' : x1 = 30 := q
      subst q'
      show (if (30 : Nat) = 30 ∨ (30 : Nat) = 31 then (0 : Int32) else M2.1 (30, 2, x3) x2) = 0
      exact if_pos (Or.inl rfl)
    · have q' : x1 = 31 := q
      subst q'
      show (if (31 : Nat) = 30 ∨ (31 : Nat) = 31 then (0 : Int32) else M2.1 (31, 2, x3) x2) = 0
      exact if_pos (Or.inr rfl)
  · obtain ⟨x1, x2, x3⟩ := x
    show M2.2.1 (x1, 2, x3) x2 = 0
    rw [k4 (x1, 2, x3) x2 rfl hx']
    exact hs6 (x1, x2, x3) hx'
  · show (if (4 : Nat) = 30 ∨ (4 : Nat) = 31 then (0 : Int32) else M2.1 (4, 2, j) 1) = _
    rw [if_neg (by first | decide | simp), m41 (4, 2, j) 1 rfl ⟨rfl, rfl⟩]
    exact hm 2 (by first | decide | simp) j hj
  · by_cases z : o.2.1 = 2
    · rcases q with q | q | q
      · exact absurd z q
      · exact k2 o k (Or.inr q)
      · exact m41 o k z q
    · exact k2 o k (Or.inl z)
/-! both sides from the text's start -/
def p6 (M : Mem) : Mem := uI (uI (uI (uI (uI (uI M (3, 0, 0) 8 0) (3, 0, 0) 9 (-1)) (3, 0, 0) 4 0) (3, 0, 0) 5 0) (3, 0, 0) 6 0) (3, 0, 0) 7 0
def pS (M : Mem) : Mem := uI M (6, 0, 0) 2 0
def mS (n : Nat) (N : Mem) : Mem := uI (uI (uI (uI (uI (uI N (10, 0, 0) 0 0) (10, 0, 0) 16 0) (10, 0, 0) 17 (-1)) (10, 0, 0) 9 (nI n)) (10, 0, 0) 2 0) (10, 0, 0) 10 0
theorem p6_r {M : Mem} {o : Oid} {k : Nat} (h1 : o ≠ (3, 0, 0) ∨ k < 4) : (p6 M).1 o k = M.1 o k := by
  have a : ∀ f, 4 ≤ f → ¬ (o = (3, 0, 0) ∧ k = f) := fun f hf q => h1.elim (fun z => z q.1) (fun z => by have := q.2; omega)
  unfold p6
  rw [uI_q (a 7 (by first | decide | simp)), uI_q (a 6 (by first | decide | simp)), uI_q (a 5 (by first | decide | simp)), uI_q (a 4 (by first | decide | simp)), uI_q (a 9 (by first | decide | simp)), uI_q (a 8 (by first | decide | simp))]
theorem pS_r {M : Mem} {o : Oid} {k : Nat} (h2 : o ≠ (6, 0, 0) ∨ 2 < k) : (pS M).1 o k = M.1 o k :=
  uI_q (fun q => h2.elim (fun z => z q.1) (fun z => by have := q.2; omega))
theorem mS_r {n : Nat} {N : Mem} {o : Oid} {k : Nat} (h : o ≠ (10, 0, 0) ∨ (k ≠ 0 ∧ k ≠ 16 ∧ k ≠ 17 ∧ k ≠ 9 ∧ k ≠ 2 ∧ k ≠ 10)) : (mS n N).1 o k = N.1 o k := by
  have a : ∀ f, (k ≠ 0 ∧ k ≠ 16 ∧ k ≠ 17 ∧ k ≠ 9 ∧ k ≠ 2 ∧ k ≠ 10 → k ≠ f) → ¬ (o = (10, 0, 0) ∧ k = f) := fun f hf q => h.elim (fun z => z q.1) (fun z => hf z q.2)
  unfold mS
  rw [uI_q (a 10 (fun z => z.2.2.2.2.2)), uI_q (a 2 (fun z => z.2.2.2.2.1)), uI_q (a 9 (fun z => z.2.2.2.1)), uI_q (a 17 (fun z => z.2.2.1)), uI_q (a 16 (fun z => z.2.1)), uI_q (a 0 (fun z => z.1))]
def FCc (M M' : Mem) : Prop := (∀ o k, ¬ wC o k → o ≠ (6, 0, 0) → M'.1 o k = M.1 o k) ∧ (∀ o k, o ≠ (6, 0, 0) → M'.2.1 o k = M.2.1 o k) ∧ M'.2.2 = M.2.2
theorem SUj {n : Nat} {M2 N : Mem} {L0 : LM} (hn : n ≤ 900) (hC : hasC 2 M2 L0) (hL : ∀ x, vldX x → L0.1 x = iniL x) (hL2 : ∀ x, vldL x → L0.2 x = 0) (hmk : MkC L0) (l6 : M2.1 (6, 0, 0) 1 = nI n) (z8 : M2.1 (3, 0, 0) 8 = 0) (z9 : M2.1 (3, 0, 0) 9 = -1) (z4 : ∀ f, f = 4 ∨ f = 5 ∨ f = 6 ∨ f = 7 → M2.1 (3, 0, 0) f = 0) (n7 : N.1 (10, 0, 0) 7 = 0) (n2 : N.1 (10, 0, 0) 2 = nI n) (hb : BB M2 N) (hk : ∀ i, i < 25 → N.2.1 (35, 0, 0) i = kwN.getD i 0) :
    ∃ r M5 N5, bnd (f_X7_begin M2) (fun _ M11 => f_X4_parse_52 fuelN 0 0 M11) = some (r, M5) ∧ FCc M2 M5 ∧ GS N N5 ∧ N5.1 (10, 0, 0) 2 = 0 ∧ ((∃ j p w L V, r = nI j ∧ j ≤ n ∧ f_X12_setup N = f_X12_setup_136 (nI j) N5 ∧ PT n p 0 w M5 N5 L V) ∨ (r = -1 ∧ (∃ x, f_X12_setup N = f_X12_setup_136 x N5) ∧ Fb M5 N5)) := by
  have hS : Sta n (pS M2) (mS n N) := by
    refine ⟨hn, ?_, ?_, fun i hi => ?_, fun i hi => hk i hi, ?_, ?_, ?_⟩
    · unfold pS; rw [uIr]; exact l6
    · unfold mS; rw [uIr, uIr, uI_at]
    · rw [pS_r (Or.inl (by simp)), mS_r (Or.inl (by simp))]; exact hb i hi
    · unfold pS; rw [uI_no (by simp)]; exact z8
    · unfold pS; rw [uI_no (by simp)]; exact z9
    · unfold mS; rw [uIr, uIr, uIr, uI_at]
  have p2 : (pS M2).1 (6, 0, 0) 2 = nI 0 := by unfold pS; rw [uI_at]; rfl
  have p10 : (mS n N).1 (10, 0, 0) 10 = nI 0 := by unfold mS; rw [uI_at]; rfl
  obtain ⟨M8, N8, s, p, k, w, q1, q2, q3, q4, q5, q6, q7⟩ := nx_both hS p2 p10 (Nat.zero_le n)
  have e7 : N8.1 (10, 0, 0) 7 = 0 := by rw [q4.1 _ _ (Or.inr (Or.inl (by first | decide | simp))), mS_r (Or.inr (by first | decide | simp))]; exact n7
  obtain ⟨N9, V0, r1, r2, r3, r4, r5, r6, r7, r8, r9, r10⟩ := M_beg e7
  obtain ⟨V, hM, hQ⟩ := ini_Q hL hL2 hmk r2 r3 r4 r5
  have hCb : hasC 2 (pS M2) L0 := hC.u0 rfl
  have c0 : ∀ f, f = 4 ∨ f = 5 ∨ f = 6 ∨ f = 7 → M8.1 (3, 0, 0) f = 0 := fun f hf => by
    rw [q3.1 _ _ (Or.inl (by simp))]
    unfold pS
    rw [uI_no (by simp)]
    exact z4 f hf
  have hS8 := hS.of q3 q4
  have w30 : ∀ i, ¬ wM (30, 0, 0) i := fun i => wM_no (by simp) (by simp) (by simp) (by simp) (by simp) (by simp)
  have hT : TS n p k w M8 N9 := by
    refine ⟨⟨hn, hS8.2.1, by rw [r6]; exact hS8.2.2.1, fun i hi => ?_, fun i hi => ?_, hS8.2.2.2.2.2.of rfl rfl (r6 17)⟩, ⟨s, q5.m (fun k _ => r6 k)⟩, ?_⟩
    · rw [r10.1 _ _ (w30 i) (by simp)]; exact hS8.2.2.2.1 i hi
    · rw [r10.2.1 _ _ (by simp)]; exact hS8.2.2.2.2.1 i hi
    · rw [r6, q4.1 _ _ (Or.inr (Or.inr (by first | decide | simp)))]
      unfold mS
      rw [uIr, uIr, uIr, uIr, uI_at]
  have hP : PT n p k w M8 N9 L0 V := by
    refine ⟨hT, hCb.s q3.s, hM, hQ, ?_, ?_, ?_, ?_⟩
    · rw [c0 4 (by simp)]
      refine Mk.z.iff (fun i _ => ⟨fun q => q.elim, fun q => q.2 (r7 _ (km_kn i (fw_lt q.1)).2)⟩)
    · rw [c0 5 (by simp)]
      exact Mk.z.iff (fun i hi => ⟨fun q => q.elim, fun q => q (r8 i hi)⟩)
    · rw [c0 6 (by simp)]
      exact Mk.z.iff (fun i hi => ⟨fun q => q.elim, fun q => by rw [hL _ (Or.inl (v8 hi (by first | decide | simp)))] at q; exact absurd q (by show ¬ ((0 : Int32) = 1); decide)⟩)
    · rw [c0 7 (by simp)]
      exact Mk.z.iff (fun i hi => ⟨fun q => q.elim, fun q => q (r9 i hi)⟩)
  obtain ⟨M5, N5, j, g1, g2, g3, g4⟩ := PL fuelN fuelN 0 p k w M8 N9 L0 V hP (by unfold fuelN; decide) (Nat.le_refl _) (q7.imp id (fun y => ⟨by unfold fuelN; omega, y⟩)) (Nat.zero_le n)
  rw [show nI 0 = (0 : Int32) from rfl] at g4
  have ec : bnd (f_X7_begin M2) (fun _ M11 => f_X4_parse_52 fuelN 0 0 M11) = f_X4_parse_52 fuelN 0 0 M8 := by
    unfold pS at q1
    unfold f_X7_begin
    dsimp only [nm]
    rw [q1, bnd_some, bnd_some]
  have em : f_X12_setup N = f_X12_setup_112 fuelN 0 N9 := by
    unfold mS at q2
    unfold f_X12_setup
    dsimp only [nm]
    rw [show (uI (uI (uI N (10, 0, 0) 0 0) (10, 0, 0) 16 0) (10, 0, 0) 17 (-1)).1 (10, 0, 0) 2 = nI n by rw [uIr, uIr, uIr, n2], q2, bnd_some, r1]
  have fc : FCc M2 M5 := by
    refine ⟨fun o k h1 h2 => ?_, fun o k h => ?_, ?_⟩
    · rw [g1.1 o k h1, q3.1 o k (Or.inl h2)]
      exact pS_r (Or.inl h2)
    · rw [g1.2.1 o k h, q3.2.1 o k h]
      rfl
    · rw [g1.2.2, q3.2.2]
      rfl
  have gs : GS N N5 := by
    refine GS.trans (N' := mS n N) ⟨fun o k h1 h2 => mS_r ?_, fun _ _ _ => rfl, rfl⟩ (q4.m.gs.trans (r10.trans g2.gs))
    by_cases z : o = (10, 0, 0)
    · refine Or.inr ⟨fun y => h2 ⟨z, Or.inl y⟩, fun y => h1 (Or.inl ⟨z, by omega⟩), fun y => h1 (Or.inl ⟨z, by omega⟩), fun y => h2 ⟨z, Or.inr (Or.inr y)⟩, fun y => h2 ⟨z, Or.inr (Or.inl y)⟩, fun y => h1 (Or.inl ⟨z, by omega⟩)⟩
    · exact Or.inl z
  have l2 : N5.1 (10, 0, 0) 2 = 0 := by
    rw [g2.1 _ _ (wM10 (by first | decide | simp)), r6, q4.1 _ _ (Or.inr (Or.inl (by first | decide | simp)))]
    unfold mS
    rw [uIr, uI_at]
  rcases g4 with ⟨a1, a2, p', w', L', V', a3⟩ | ⟨a1, ⟨x, a2⟩, a3⟩
  · exact ⟨nI j, M5, N5, ec.trans a1, fc, gs, l2, Or.inl ⟨j, p', w', L', V', rfl, g3, em.trans a2, a3⟩⟩
  · exact ⟨-1, M5, N5, ec.trans a1, fc, gs, l2, Or.inr ⟨rfl, ⟨x, em.trans a2⟩, a3⟩⟩
