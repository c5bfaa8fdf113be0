theorem nI_m1 {j : Nat} (hj : j ≤ 900) : ¬ nI j = -1 := fun q => by
  have h : (0 : Int32) ≤ nI j := nI_pos' (by omega)
  rw [q] at h
  exact absurd h (by first | decide | simp)
theorem su46 {n : Nat} {x : Int32} {M : Mem} (hn : 3 ≤ n) : f_X11_setup_40 n x 0 M = some (x, uI (uI M (23, 0, 0) 0 0) (23, 0, 0) 1 0) := by
  obtain ⟨n, rfl⟩ : ∃ q, n = q + 1 + 1 + 1 := ⟨n - 3, by omega⟩
  have en : ∀ k y X, f_X11_setup_40 (k + 1) x y X = _ := fun k y X => Eq.trans (by unfold f_X11_setup_40; exact rfl) rfl
  rw [en, if_neg (by first | decide | simp), if_neg (by first | decide | simp), show ((0 : Int32) &&& 1) = 0 by decide]
  dsimp only [nm]
  rw [show (0 : Int32) + 1 = 1 by decide, en, if_neg (by first | decide | simp), if_neg (by first | decide | simp), show ((0 : Int32) &&& 1) = 0 by decide]
  dsimp only [nm]
  rw [show (1 : Int32) + 1 = 2 by decide, en, if_pos (by first | decide | simp)]
  rfl
/-- the settings are taken over -/
theorem s147_loop {x : Int32} {V : LM} : ∀ (m i n : Nat) (N : Mem), i + m = 52 → m < n → hasM 4 52 N V → (∀ j, j < i → N.1 (31, 0, 0) j = V.1 (cS j)) → ∃ N', f_X12_setup_147 n x (nI i) N = bnd (f_X12_copyBlock 4 0 N') (fun _ M2 => if bad 0 2 then none else nm (uI M2 (34, 0, 0) (Int32.toNatClampNeg 0) (0 &&& 1)) (fun M4 => if bad 1 2 then none else nm (uI M4 (34, 0, 0) (Int32.toNatClampNeg 1) (0 &&& 1)) (fun M5 => some (x, M5)))) ∧ hasM 4 52 N' V ∧ (∀ j, j < 52 → N'.1 (31, 0, 0) j = V.1 (cS j)) ∧ (∀ o k, o.1 ≠ 31 → N'.1 o k = N.1 o k) ∧ N'.2 = N.2 := by
  intro m
  induction m with
  | zero =>
    intro i n N hi hn h hj
    obtain ⟨n, rfl⟩ : ∃ q, n = q + 1 := ⟨n - 1, by omega⟩
    refine ⟨N, ?_, h, fun j q => hj j (by omega), fun _ _ _ => rfl, rfl⟩
    rw [show ∀ y X, f_X12_setup_147 (n + 1) x y X = _ from fun y X => Eq.trans (by unfold f_X12_setup_147; exact rfl) rfl, if_pos (show (52 : Int32) ≤ nI i by rw [show i = 52 by omega]; decide)]
  | succ m ih =>
    intro i n N hi hn h hj
    obtain ⟨n, rfl⟩ : ∃ q, n = q + 1 := ⟨n - 1, by omega⟩
    have e52 : (52 : Int32) + nI i = nI (52 + i) := nI_add 52 i
    have hS := h.S (i := i) (by omega)
    have h' : hasM 4 52 (uI N (31, 0, 0) i (V.1 (cS i))) V := h.eq (fun a ha => uI_no (by simp)) (fun a ha => uI_q (fun q => by have := q.2; omega)) (fun _ _ => rfl)
    obtain ⟨N', e1, e2, e3, e4, e5⟩ := ih (i + 1) n (uI N (31, 0, 0) i (V.1 (cS i))) (by omega) (by omega) h' (fun j q => by
      by_cases z : j = i
      · rw [z]; exact uI_at
      · rw [uI_q (fun y => z y.2)]; exact hj j (by omega))
    refine ⟨N', ?_, e2, e3, fun o k ho => (e4 o k ho).trans (uI_no ho), e5⟩
    rw [show ∀ y X, f_X12_setup_147 (n + 1) x y X = _ from fun y X => Eq.trans (by unfold f_X12_setup_147; exact rfl) rfl, if_neg (show ¬ (52 : Int32) ≤ nI i from nI_ge (b := 52) (by omega) (by first | decide | simp)), e52, if_neg (nbad (by omega) (by first | decide | simp)), if_neg (nbad (by omega) (by first | decide | simp)), nI_clamp (by omega), nI_clamp (by omega), hS]
    dsimp only [nm]
    rw [nI_1]
    exact e1
theorem s147 {x : Int32} {N : Mem} {V : LM} (h : hasM 4 52 N V) : ∃ N8, f_X12_setup_147 fuelN x 0 N = some (x, N8) ∧ hasM 0 0 N8 V ∧ N8.1 (34, 0, 0) 0 = 0 ∧ N8.1 (34, 0, 0) 1 = 0 ∧ (∀ o k, o.1 ≠ 34 → o.1 ≠ 31 → o.1 ≠ 32 → N8.1 o k = N.1 o k) ∧ (∀ o k, o.1 ≠ 33 → N8.2.1 o k = N.2.1 o k) ∧ N8.2.2 = N.2.2 := by
  obtain ⟨N1, e1, e2, e3, e4, e5⟩ := s147_loop (x := x) 52 0 fuelN N (by first | decide | simp) (by unfold fuelN; decide) h (fun j hj => by omega)
  rw [show nI 0 = (0 : Int32) from rfl] at e1
  have cb : f_X12_copyBlock 4 0 N1 = some ((), putM 0 52 N1 V) := by
    have q := M_cb (a := 4) (b := 0) (M := N1) (by first | decide | simp) (by first | decide | simp) (by first | decide | simp)
    rw [cb_has e2] at q
    exact q
  have pA : ∀ i, i < 472 → (putM 0 52 N1 V).1 (32, 0, 0) i = V.1 (cA i) := fun i hi => by
    have q := rdA (β := 0) (σ := 52) (N := N1) (V := V) hi
    rw [Nat.mul_zero, Nat.zero_add] at q
    exact q
  have pL : ∀ i, i < 10 → (putM 0 52 N1 V).2.1 (33, 0, 0) i = V.2 (cL i) := fun i hi => by
    have q := rdL (β := 0) (σ := 52) (N := N1) (V := V) hi
    rw [Nat.mul_zero, Nat.zero_add] at q
    exact q
  have pS' : ∀ i, i < 52 → (putM 0 52 N1 V).1 (31, 0, 0) i = V.1 (cS i) := fun i hi => by
    rw [← e3 i hi]
    unfold putM
    dsimp only
    rw [if_neg (fun q => absurd (congrArg Prod.fst q.1) (by first | decide | simp)), if_neg (fun q => by omega)]
  refine ⟨uI (uI (putM 0 52 N1 V) (34, 0, 0) 0 0) (34, 0, 0) 1 0, ?_, ?_, ?_, uI_at, fun o k h1 h2 h3 => ?_, fun o k h1 => ?_, ?_⟩
  · rw [e1, cb, bnd_some, if_neg (by first | decide | simp), show ((0 : Int32) &&& 1) = 0 by decide]
    dsimp only [nm]
    rw [if_neg (by first | decide | simp)]
    rfl
  · revert pA pL pS'
    generalize putM 0 52 N1 V = P
    intro pA pL pS'
    unfold hasM putM
    refine Prod.ext (funext fun o => funext fun k => ?_) (Prod.ext (funext fun o => funext fun k => ?_) rfl)
    · dsimp only
      by_cases q : o = (32, 0, 0) ∧ 472 * 0 ≤ k ∧ k < 472 * 0 + 472
      · obtain ⟨q1, q2, q3⟩ := q
        subst q1
        rw [if_pos ⟨rfl, q2, q3⟩, uI_no (by simp), uI_no (by simp), Nat.mul_zero, Nat.sub_zero]
        exact (pA k (by omega)).symm
      · rw [if_neg q]
        by_cases q2 : o = (31, 0, 0) ∧ 0 ≤ k ∧ k < 0 + 52
        · obtain ⟨r1, r2, r3⟩ := q2
          subst r1
          rw [if_pos ⟨rfl, r2, r3⟩, uI_no (by simp), uI_no (by simp), Nat.sub_zero]
          exact (pS' k (by omega)).symm
        · rw [if_neg q2]
    · show (if o = (33, 0, 0) ∧ 10 * 0 ≤ k ∧ k < 10 * 0 + 10 then V.2 (cL (k - 10 * 0)) else P.2.1 o k) = P.2.1 o k
      by_cases q : o = (33, 0, 0) ∧ 10 * 0 ≤ k ∧ k < 10 * 0 + 10
      · obtain ⟨r1, r2, r3⟩ := q
        subst r1
        rw [if_pos ⟨rfl, r2, r3⟩, Nat.mul_zero, Nat.sub_zero]
        exact (pL k (by omega)).symm
      · rw [if_neg q]
  · rw [uIr]; exact uI_at
  · rw [uI_no h1, uI_no h1, putM_no h2 h3]
    exact e4 o k h2
  · show (putM 0 52 N1 V).2.1 o k = _
    rw [putM_noL h1, e5]
  · show N1.2.2 = _
    rw [e5]
theorem kp_wC {o : Oid} {k : Nat} (h : kpI o k) : ¬ wC o k := by
  rintro (⟨q, _⟩ | q | ⟨q1, q2, q3⟩)
  · exact h.ne (q := (6, 0, 0)) (by simp) q
  · exact h.ne (q := (3, 0, 0)) (by simp) q
  · rcases h with ⟨h, _⟩ | ⟨h, _⟩ | ⟨h, _⟩ | h | h | ⟨_, h⟩ | h
    · rw [h] at q1; cases q1
    · rw [h] at q1; cases q1
    · rw [h] at q1; cases q1
    · rw [h] at q1; cases q1
    · rw [h] at q1; cases q1
    · omega
    · exact q3 h
theorem kp_wM {o : Oid} {k : Nat} (h : kpI o k) : ¬ wM o k ∧ ¬ (o = (10, 0, 0) ∧ (k = 0 ∨ k = 2 ∨ k = 9)) := by
  refine ⟨?_, fun q => ?_⟩
  · have h36 := h.ne (q := (36, o.2)) (by simp)
    have h37 := h.ne (q := (37, o.2)) (by simp)
    have h38 := h.ne (q := (38, o.2)) (by simp)
    rintro (⟨q, q2⟩ | ⟨q, q2⟩ | ⟨q, q2⟩ | q | q | q)
    · by_cases z : k = 7
      · omega
      · exact h.n10 z ⟨q, rfl⟩
    · rw [q] at h
      rcases h with ⟨_, h⟩ | ⟨h, _⟩ | ⟨h, _⟩ | h | h | ⟨h, _⟩ | ⟨h, _⟩
      · omega
      all_goals cases h
    · rw [q] at h
      rcases h with ⟨h, _⟩ | ⟨_, h⟩ | ⟨h, _⟩ | h | h | ⟨h, _⟩ | ⟨h, _⟩
      · cases h
      · omega
      all_goals cases h
    · exact h36 (by obtain ⟨a, b⟩ := o; dsimp only at q ⊢; rw [q])
    · exact h37 (by obtain ⟨a, b⟩ := o; dsimp only at q ⊢; rw [q])
    · exact h38 (by obtain ⟨a, b⟩ := o; dsimp only at q ⊢; rw [q])
  · refine h.n10 (f := k) ?_ ⟨q.1, rfl⟩
    omega
theorem p6_L {M : Mem} : (p6 M).2 = M.2 := by
  unfold p6 uI
  rfl
/-- the class's draft as at first, what it told forgotten -/
theorem C_begin {M : Mem} (hs : Stat M) (hm : Msk M) (n : Nat) (n1 : M.1 (6, 0, 0) 1 = nI n) : ∃ M2 L0, f_X3_copyFrom 2 0 (p6 M) = some ((), M2) ∧ hasC 2 M2 L0 ∧ (∀ x, vldX x → L0.1 x = iniL x) ∧ (∀ x, vldL x → L0.2 x = 0) ∧ MkC L0 ∧ (∀ o k, o ≠ (3, 0, 0) → (o.2.1 ≠ 2 ∨ cvK o.1 = false ∨ (o.1 = 4 ∧ k = 1)) → M2.1 o k = M.1 o k) ∧ (∀ o k, (o.2.1 ≠ 2 ∨ cvK o.1 = false) → M2.2.1 o k = M.2.1 o k) ∧ M2.1 (6, 0, 0) 1 = nI n ∧ M2.1 (3, 0, 0) 8 = 0 ∧ M2.1 (3, 0, 0) 9 = -1 ∧ (∀ f, f = 4 ∨ f = 5 ∨ f = 6 ∨ f = 7 → M2.1 (3, 0, 0) f = 0) := by
  obtain ⟨M2, L0, c1, c2, c3, c4, c5, f1, f2, f3⟩ := C_start (M := p6 M) (fun x hx => by rw [p6_r (Or.inl (fun q => by have := vld_cv hx; rw [congrArg Prod.fst q] at this; cases this))]; exact hs.2.2.2.2.1 x hx) (fun x hx => by rw [p6_L]; exact hs.2.2.2.2.2.1 x hx) (fun c hc j hj => by rw [p6_r (Or.inl (by simp))]; exact hm c hc j hj)
  have f0 : ∀ k, M2.1 (3, 0, 0) k = (p6 M).1 (3, 0, 0) k := fun k => f1 _ _ (Or.inl (by simp))
  refine ⟨M2, L0, c1, c2, c3, c4, c5, fun o k h q => (f1 o k q).trans (p6_r (Or.inl h)), fun o k q => by rw [f2 o k q, p6_L], ?_, ?_, ?_, fun f hf => ?_⟩
  · rw [f1 _ _ (Or.inl (by simp)), p6_r (Or.inl (by simp))]; exact n1
  · rw [f0]; unfold p6; rw [uIr, uIr, uIr, uIr, uIr, uI_at]
  · rw [f0]; unfold p6; rw [uIr, uIr, uIr, uIr, uI_at]
  · rw [f0]
    unfold p6
    rcases hf with rfl | rfl | rfl | rfl
    · rw [uIr, uIr, uIr, uI_at]
    · rw [uIr, uIr, uI_at]
    · rw [uIr, uI_at]
    · rw [uI_at]
theorem parse_eq {M M2 : Mem} (c1 : f_X3_copyFrom 2 0 (p6 M) = some ((), M2)) : f_X4_parse M = bnd (f_X7_begin M2) (fun _ M11 => f_X4_parse_52 fuelN 0 0 M11) := by
  unfold f_X4_parse
  dsimp only [nm]
  unfold p6 at c1
  rw [c1, bnd_some]
theorem A_setup {B t : Nat} {M : Mem} {L V : LM} (h : InX B M t L V) : AnsI (f_X11_setup M) f_X12_setup B := by
  have hs : Stat M := h.2.2.2.2.2.2.2.2
  have hm : Msk M := h.2.2.2.2.2.2.2.1
  have h7 := h.h7
  obtain ⟨n, hn, n1, n2⟩ := hs.1
  have hkw := hs.2.2.2.2.2.2
  obtain ⟨M2, L0, c1, c2, c3, c4, c5, f1, f2, l6, z8, z9, z4⟩ := C_begin hs hm n n1
  have SU := fun (N : Mem) (a7 : N.1 (10, 0, 0) 7 = 0) (a2 : N.1 (10, 0, 0) 2 = nI n) (hb : ∀ i, N.1 (30, 0, 0) i = M.1 (30, 0, 0) i) (hk : ∀ i, N.2.1 (35, 0, 0) i = M.2.1 (35, 0, 0) i) => SUj hn c2 c3 c4 c5 l6 z8 z9 z4 a7 a2 (show BB M2 N from fun i hi => by rw [f1 _ _ (by simp) (Or.inl (by simp)), hb]; exact hs.2.1 i hi) (fun i hi => by rw [hk]; exact hkw i hi)
  obtain ⟨r, M5, N5, p1, fc, _, _, p4⟩ := SU M h7 n2 (fun _ => rfl) (fun _ => rfl)
  have hp : f_X4_parse M = some (r, M5) := (parse_eq c1).trans p1
  have SU2 := fun (N : Mem) (a7 : N.1 (10, 0, 0) 7 = 0) (a2 : N.1 (10, 0, 0) 2 = nI n) (hb : ∀ i, N.1 (30, 0, 0) i = M.1 (30, 0, 0) i) (hk : ∀ i, N.2.1 (35, 0, 0) i = M.2.1 (35, 0, 0) i) => (show ∃ N5, GS N N5 ∧ N5.1 (10, 0, 0) 2 = 0 ∧ ((∃ j p w L V, r = nI j ∧ j ≤ n ∧ f_X12_setup N = f_X12_setup_136 (nI j) N5 ∧ PT n p 0 w M5 N5 L V) ∨ (r = -1 ∧ (∃ x, f_X12_setup N = f_X12_setup_136 x N5) ∧ Fb M5 N5)) from by
    obtain ⟨r', M5', N5', q1, _, q3, q4, q5⟩ := SU N a7 a2 hb hk
    have e := q1.symm.trans p1
    injection e with e
    injection e with e1 e2
    subst e1 e2
    exact ⟨N5', q3, q4, q5⟩)
  have m5 : ∀ o k, ¬ wC o k → o ≠ (6, 0, 0) → M5.1 o k = M.1 o k := fun o k q1 q2 => by
    rw [fc.1 o k q1 q2]
    refine f1 o k (fun z => q1 (Or.inr (Or.inl z))) ?_
    by_cases z : o.2.1 = 2
    · by_cases y : cvK o.1 = true
      · exact Or.inr (Or.inr (Classical.byContradiction (fun x => q1 (Or.inr (Or.inr ⟨y, z, x⟩)))))
      · exact Or.inr (Or.inl (by cases hh : cvK o.1 with | false => rfl | true => exact absurd hh y))
    · exact Or.inl z
  have m5L : ∀ o k, o ≠ (6, 0, 0) → (o.2.1 ≠ 2 ∨ cvK o.1 = false) → M5.2.1 o k = M.2.1 o k := fun o k q1 q2 => (fc.2.1 o k q1).trans (f2 o k q2)
  have wCn : ∀ {o : Oid} {k : Nat}, o ≠ (6, 0, 0) → o ≠ (3, 0, 0) → (o.2.1 ≠ 2 ∨ cvK o.1 = false) → ¬ wC o k := fun {o k} h6 h3 q z => by
    rcases z with ⟨z, _⟩ | z | ⟨z1, z2, _⟩
    · exact h6 z
    · exact h3 z
    · rcases q with q | q
      · exact q z2
      · rw [q] at z1; cases z1
  -- the class's buffer is emptied
  have m7 : ∀ o k, o ≠ (6, 0, 0) → (uI M5 (6, 0, 0) 1 0).1 o k = M5.1 o k := fun o k q => uI_q (fun z => q z.1)
  rcases p4 with ⟨j, p, w, Lx, Vx, rj, hj, pe, hP⟩ | ⟨r1, _, _⟩
  · -- it has been read
    have hC7 : ∀ X, hasC 2 M5 X → hasC 2 (uI M5 (6, 0, 0) 1 0) X := fun X hX => hX.u0 rfl
    obtain ⟨M9, d1, d2⟩ := cp_X3 (a := 1) (c := 2) (M := uI M5 (6, 0, 0) 1 0) (by first | decide | simp) (hP.2.2.2.1.r.bzc (hC7 _ hP.2.1))
    have hF : f_X11_setup M = some (nI j, uI (uI M9 (23, 0, 0) 0 0) (23, 0, 0) 1 0) := by
      unfold f_X11_setup
      rw [hp, bnd_some]
      dsimp only [nm]
      rw [rj, if_neg (nI_m1 (by omega)), d1, bnd_some, su46 (by unfold fuelN; decide)]
    have m9 : ∀ o k, cvK o.1 = false → o ≠ (6, 0, 0) → o ≠ (6, 0, 0) → o ≠ (3, 0, 0) → M9.1 o k = M.1 o k := fun o k q1 q2 q6 q3 => by
      rw [d2.2.1 o k (Or.inr q1), m7 o k q2, m5 o k (wCn q6 q3 (Or.inr q1)) q6]
    have m9L : ∀ o k, cvK o.1 = false → o ≠ (6, 0, 0) → M9.2.1 o k = M.2.1 o k := fun o k q1 q6 => by
      rw [d2.2.2.2.2.1 o k (Or.inr q1)]
      exact m5L o k q6 (Or.inr q1)
    have m10 : ∀ o k, o.1 ≠ 23 → (uI (uI M9 (23, 0, 0) 0 0) (23, 0, 0) 1 0).1 o k = M9.1 o k := fun o k q => by rw [uI_no q, uI_no q]
    obtain ⟨N5', g1, g2, g3⟩ := SU2 (uI (uI M9 (23, 0, 0) 0 0) (23, 0, 0) 1 0) (by rw [m10 _ _ (by simp), m9 _ _ rfl (by simp) (by simp) (by simp)]; exact h7) (by rw [m10 _ _ (by simp), m9 _ _ rfl (by simp) (by simp) (by simp)]; exact n2) (fun i => by rw [m10 _ _ (by simp), m9 _ _ rfl (by simp) (by simp) (by simp)]) (fun i => m9L _ _ rfl (by simp))
    rcases g3 with ⟨j', p', w', L', V', rj', hj', pe', hP'⟩ | ⟨r1, _⟩
    · obtain ⟨L1, V1, a1, a2, a3, a4, a5, a6⟩ := hP'.2.2.2.1.r.copy (hC7 _ hP'.2.1) d2 (fun i hi => by rw [m7 _ _ (by simp), m5 _ _ (kp_wC kpI_mk) (by simp)]; exact hm 1 (by first | decide | simp) i hi)
      obtain ⟨N8, b1, b2, b3, b4, b5, b6, b7⟩ := s147 (x := nI j') hP'.2.2.1
      have t8 : ∀ o k, o.1 ≠ 34 → o.1 ≠ 31 → o.1 ≠ 32 → o.1 ≠ 10 → o.1 ≠ 36 → o.1 ≠ 37 → o.1 ≠ 38 → o.1 ≠ 23 → N8.1 o k = M9.1 o k := fun o k q34 q31 q32 q10 q36 q37 q38 q23 => by
        rw [b5 o k q34 q31 q32, g1.1 o k (wM_no q10 q31 q32 q36 q37 q38) (fun z => q10 (by rw [z.1])), m10 o k q23]
      have t8L : ∀ o k, o.1 ≠ 33 → N8.2.1 o k = M9.2.1 o k := fun o k q => by
        rw [b6 o k q, g1.2.1 o k (fun z => q (by rw [z.1]))]
        rfl
      have t10 : ∀ k, k < 10 → k ≠ 0 → k ≠ 2 → k ≠ 9 → N8.1 (10, 0, 0) k = M.1 (10, 0, 0) k := fun k k10 k0 k2 k9 => by
        rw [b5 _ _ (by simp) (by simp) (by simp), g1.1 _ _ (wM10 k10) (fun z => by rcases z.2 with y | y | y; exact k0 y; exact k2 y; exact k9 y), m10 _ _ (by simp), m9 _ _ rfl (by simp) (by simp) (by simp)]
      have cvn : ∀ {a q : Nat}, cvK a = true → cvK q = false → a ≠ q := fun h1 h2 e => by rw [e, h2] at h1; cases h1
      have t8c : ∀ a c i k, cvK a = true → N8.1 (a, c, i) k = M9.1 (a, c, i) k := fun a c i k ha => t8 _ _ (cvn ha rfl) (cvn ha rfl) (cvn ha rfl) (cvn ha rfl) (cvn ha rfl) (cvn ha rfl) (cvn ha rfl) (cvn ha rfl)
      have t8cL : ∀ a c i k, cvK a = true → N8.2.1 (a, c, i) k = M9.2.1 (a, c, i) k := fun a c i k ha => t8L _ _ (cvn ha rfl)
      have o0 : ∀ a i k, cvK a = true → M9.1 (a, 0, i) k = M.1 (a, 0, i) k := fun a i k ha => by
        rw [d2.2.1 _ _ (Or.inl (by simp)), m7 _ _ (fun z => cvn ha (q := 6) rfl (congrArg Prod.fst z)), m5 _ _ (wCn (fun z => cvn ha (q := 6) rfl (congrArg Prod.fst z)) (fun z => cvn ha (q := 3) rfl (congrArg Prod.fst z)) (Or.inl (by simp))) (fun z => cvn ha (q := 6) rfl (congrArg Prod.fst z))]
      have o0L : ∀ a i k, cvK a = true → M9.2.1 (a, 0, i) k = M.2.1 (a, 0, i) k := fun a i k ha => by
        rw [d2.2.2.2.2.1 _ _ (Or.inl (by simp))]
        exact m5L _ _ (fun z => cvn ha (q := 6) rfl (congrArg Prod.fst z)) (Or.inl (by simp))
      have msk : ∀ d, d < 6 → ∀ i, i < 3 → N8.1 (4, d, i) 1 = nI (rk i - 1) := fun d hd i hi => by
        rw [t8c _ _ _ _ rfl, ← hm d hd i hi]
        have e7 : (uI M5 (6, 0, 0) 1 0).1 (4, d, i) 1 = M.1 (4, d, i) 1 := by rw [m7 _ _ (by simp), m5 _ _ (kp_wC kpI_mk) (by simp)]
        by_cases z : d = 1
        · subst z
          rcases d2.2.2.1 (4, 1, i) 1 rfl with q | q
          · rw [q, e7]
          · exact absurd ⟨rfl, rfl⟩ q.2
        · rw [d2.2.1 _ _ (Or.inl z), e7]
      obtain ⟨x7, x8, x17⟩ := hP'.1.1.2.2.2.2.2
      have h3 : ∀ k, N8.1 (3, 0, 0) k = M5.1 (3, 0, 0) k := fun k => by
        rw [t8 _ _ (by simp) (by simp) (by simp) (by simp) (by simp) (by simp) (by simp) (by simp), d2.2.1 _ _ (Or.inr rfl), m7 _ _ (by simp)]
      have hst : Stat N8 := by
        refine hs.buf (n := 0) (by first | decide | simp) ?_ ?_ (fun i hi => ?_) ?_ ?_ (fun a i k ha => (t8c a 0 i k ha).trans (o0 a i k ha)) (fun a i k ha => ?_)
        · rw [t8 _ _ (by simp) (by simp) (by simp) (by simp) (by simp) (by simp) (by simp) (by simp), d2.2.1 _ _ (Or.inr rfl)]
          exact uI_at
        · rw [b5 _ _ (by simp) (by simp) (by simp)]; exact g2
        · rw [t8 _ _ (by simp) (by simp) (by simp) (by simp) (by simp) (by simp) (by simp) (by simp), t8 _ _ (by simp) (by simp) (by simp) (by simp) (by simp) (by simp) (by simp) (by simp), m9 _ _ rfl (by simp) (by simp) (by simp), m9 _ _ rfl (by simp) (by simp) (by simp)]
          exact hs.2.1 i hi
        · rw [h3, x7, b5 _ _ (by simp) (by simp) (by simp), hP'.1.2.2]
        · rw [h3, x8, b5 _ _ (by simp) (by simp) (by simp), x17]
        · rcases ha with ha | ha
          · exact (t8cL a 0 i k ha).trans (o0L a i k ha)
          · subst ha
            rw [t8L _ _ (by simp), m9L _ _ rfl (by simp)]
      have i23 : ∀ k, k < 2 → N8.1 (23, 0, 0) k = 0 := fun k hk => by
        rw [b5 _ _ (by simp) (by simp) (by simp), g1.1 _ _ (wM_no (by simp) (by simp) (by simp) (by simp) (by simp) (by simp)) (by simp)]
        rcases (show k = 0 ∨ k = 1 by omega) with rfl | rfl
        · rw [uIr]; exact uI_at
        · exact uI_at
      refine ⟨nI j, _, N8, hF, ?_, ⟨0, L1, V1, Nat.zero_le _, ?_, ?_, a3, ?_, ⟨by rw [b3, i23 0 (by first | decide | simp)], Or.inl (i23 0 (by first | decide | simp)), fun q => absurd (i23 0 (by first | decide | simp)) q⟩, ⟨by rw [b4, i23 1 (by first | decide | simp)], Or.inl (i23 1 (by first | decide | simp)), fun q => absurd (i23 1 (by first | decide | simp)) q⟩, msk, hst⟩⟩
      · rw [pe', rj.symm.trans rj']
        unfold f_X12_setup_136
        rw [ok1 hP'.1.2.2, bnd_some, if_neg (by first | decide | simp), b1]
      · exact a1.eq (fun a i k ha => t8c a 1 i k ha) (fun a i k ha => t8cL a 1 i k ha)
      · unfold hasM
        rw [putM_congr a4 a5 a6]
        exact b2
      · rw [t10 7 (by first | decide | simp) (by first | decide | simp) (by first | decide | simp) (by first | decide | simp)]; exact h7
    · exact absurd (rj.symm.trans r1) (nI_m1 (by omega))
  · -- it has an error
    subst r1
    have hF : f_X11_setup M = some (-1, uI M5 (6, 0, 0) 1 0) := by
      unfold f_X11_setup
      rw [hp, bnd_some]
      dsimp only [nm]
      rw [if_pos rfl]
    have m7' : ∀ o k, cvK o.1 = false → o ≠ (6, 0, 0) → o ≠ (6, 0, 0) → o ≠ (3, 0, 0) → (uI M5 (6, 0, 0) 1 0).1 o k = M.1 o k := fun o k q1 q2 q6 q3 => by
      rw [m7 o k q2, m5 o k (wCn q6 q3 (Or.inr q1)) q6]
    obtain ⟨N5', g1, g2, g3⟩ := SU2 (uI M5 (6, 0, 0) 1 0) (by rw [m7' _ _ rfl (by simp) (by simp) (by simp)]; exact h7) (by rw [m7' _ _ rfl (by simp) (by simp) (by simp)]; exact n2) (fun i => m7' _ _ rfl (by simp) (by simp) (by simp)) (fun i => m5L _ _ (by simp) (Or.inr rfl))
    rcases g3 with ⟨j', p', w', L', V', rj', hj', pe', hP'⟩ | ⟨_, ⟨x, pe'⟩, fb⟩
    · exact absurd rj'.symm (nI_m1 (by omega))
    · have w0 : ∀ {o : Oid} {k : Nat}, o.1 ≠ 10 → o.1 ≠ 31 → o.1 ≠ 32 → o.1 ≠ 36 → o.1 ≠ 37 → o.1 ≠ 38 → N5'.1 o k = (uI M5 (6, 0, 0) 1 0).1 o k := fun {o k} q1 q2 q3 q4 q5 q6 => g1.1 o k (wM_no q1 q2 q3 q4 q5 q6) (fun z => q1 (by rw [z.1]))
      have cvn : ∀ {a q : Nat}, cvK a = true → cvK q = false → a ≠ q := fun h1 h2 e => by rw [e, h2] at h1; cases h1
      refine ⟨-1, _, N5', hF, ?_, ⟨t, L, V, h.eq (hs.buf (n := 0) (by first | decide | simp) ?_ g2 (fun i hi => ?_) ?_ ?_ (fun a i k ha => ?_) (fun a i k ha => ?_)) (fun o k q => ?_) (fun o k q => ?_)⟩⟩
      · rw [pe']
        unfold f_X12_setup_136
        rw [ok0 fb.2.2, bnd_some, if_pos rfl]
      · rw [w0 (by simp) (by simp) (by simp) (by simp) (by simp) (by simp)]; exact uI_at
      · rw [w0 (by simp) (by simp) (by simp) (by simp) (by simp) (by simp), w0 (by simp) (by simp) (by simp) (by simp) (by simp) (by simp), m7' _ _ rfl (by simp) (by simp) (by simp), m7' _ _ rfl (by simp) (by simp) (by simp)]
        exact hs.2.1 i hi
      · rw [w0 (by simp) (by simp) (by simp) (by simp) (by simp) (by simp), m7 _ _ (by simp)]; exact fb.1
      · rw [w0 (by simp) (by simp) (by simp) (by simp) (by simp) (by simp), m7 _ _ (by simp)]; exact fb.2.1
      · rw [w0 (cvn ha rfl) (cvn ha rfl) (cvn ha rfl) (cvn ha rfl) (cvn ha rfl) (cvn ha rfl), m7 _ _ (fun z => cvn ha (q := 6) rfl (congrArg Prod.fst z)), m5 _ _ (wCn (fun z => cvn ha (q := 6) rfl (congrArg Prod.fst z)) (fun z => cvn ha (q := 3) rfl (congrArg Prod.fst z)) (Or.inl (by simp))) (fun z => cvn ha (q := 6) rfl (congrArg Prod.fst z))]
      · have a33 : a ≠ 33 := by rcases ha with ha | ha; exact cvn ha rfl; rw [ha]; decide
        have a6 : a ≠ 6 := by rcases ha with ha | ha; exact cvn ha rfl; rw [ha]; decide
        rw [g1.2.1 _ _ (fun z => a33 (congrArg Prod.fst z.1))]
        exact m5L _ _ (fun z => a6 (congrArg Prod.fst z)) (Or.inl (by simp))
      · obtain ⟨y1, y2⟩ := kp_wM q
        rw [g1.1 o k y1 y2, m7 _ _ (q.ne (by simp)), m5 o k (kp_wC q) (q.ne (by simp))]
      · have a33 : ¬ (o = (33, 0, 0) ∧ 40 ≤ k) := by
          rintro ⟨z1, z2⟩
          rw [z1] at q
          rcases q with ⟨_, q⟩ | ⟨q, _⟩
          · omega
          · cases q
        have a6 : o ≠ (6, 0, 0) := by
          intro z
          rw [z] at q
          rcases q with ⟨q, _⟩ | ⟨q, _⟩ <;> cases q
        rw [g1.2.1 o k a33]
        refine m5L o k a6 ?_
        rcases q with ⟨q, _⟩ | ⟨_, q⟩
        · exact Or.inr (by rw [q]; rfl)
        · exact Or.inl (by omega)
