/-! ===== a setup text's start on both sides ===== -/
def cl_ (a n : Nat) (N N' : Mem) : Prop := (∀ j, j < n → N'.1 (a, 0, 0) j = 0) ∧ (∀ o k, o.1 ≠ a → N'.1 o k = N.1 o k) ∧ N'.2 = N.2
theorem cl39 : ∀ (m i n : Nat) (N : Mem), i + m = 25 → m < n → (∀ j, j < i → N.1 (36, 0, 0) j = 0) → ∃ N', f_X12_setup_39 n (nI i) N = f_X12_setup_60 fuelN 0 N' ∧ cl_ 36 25 N N' := by
  intro m
  induction m with
  | zero =>
    intro i n N hi hn h
    obtain ⟨n, rfl⟩ : ∃ q, n = q + 1 := ⟨n - 1, by omega⟩
    refine ⟨N, ?_, fun j hj => h j (by omega), fun _ _ _ => rfl, rfl⟩
    rw [show ∀ x X, f_X12_setup_39 (n + 1) x X = _ from fun x X => Eq.trans (by unfold f_X12_setup_39; exact rfl) rfl, if_pos (show (25 : Int32) ≤ nI i by rw [show i = 25 by omega]; decide)]
  | succ m ih =>
    intro i n N hi hn h
    obtain ⟨n, rfl⟩ : ∃ q, n = q + 1 := ⟨n - 1, by omega⟩
    obtain ⟨N', e1, e2, e3, e4⟩ := ih (i + 1) n (uI N (36, 0, 0) i 0) (by omega) (by omega) (fun j hj => by
      by_cases z : j = i
      · rw [z]; exact uI_at
      · rw [uI_q (fun q => z q.2)]; exact h j (by omega))
    refine ⟨N', ?_, e2, fun o k ho => (e3 o k ho).trans (uI_no ho), e4⟩
    rw [show ∀ x X, f_X12_setup_39 (n + 1) x X = _ from fun x X => Eq.trans (by unfold f_X12_setup_39; exact rfl) rfl, if_neg (show ¬ (25 : Int32) ≤ nI i from nI_ge (b := 25) (by omega) (by first | decide | simp)), if_neg (nbad (by omega) (by first | decide | simp)), nI_clamp (by omega), show ((0 : Int32) &&& 1) = 0 by decide]
    dsimp only [nm]
    rw [nI_1]
    exact e1
theorem cl60 : ∀ (m i n : Nat) (N : Mem), i + m = 8 → m < n → (∀ j, j < i → N.1 (37, 0, 0) j = 0) → ∃ N', f_X12_setup_60 n (nI i) N = f_X12_setup_81 fuelN 0 N' ∧ cl_ 37 8 N N' := by
  intro m
  induction m with
  | zero =>
    intro i n N hi hn h
    obtain ⟨n, rfl⟩ : ∃ q, n = q + 1 := ⟨n - 1, by omega⟩
    refine ⟨N, ?_, fun j hj => h j (by omega), fun _ _ _ => rfl, rfl⟩
    rw [show ∀ x X, f_X12_setup_60 (n + 1) x X = _ from fun x X => Eq.trans (by unfold f_X12_setup_60; exact rfl) rfl, if_pos (show (8 : Int32) ≤ nI i by rw [show i = 8 by omega]; decide)]
  | succ m ih =>
    intro i n N hi hn h
    obtain ⟨n, rfl⟩ : ∃ q, n = q + 1 := ⟨n - 1, by omega⟩
    obtain ⟨N', e1, e2, e3, e4⟩ := ih (i + 1) n (uI N (37, 0, 0) i 0) (by omega) (by omega) (fun j hj => by
      by_cases z : j = i
      · rw [z]; exact uI_at
      · rw [uI_q (fun q => z q.2)]; exact h j (by omega))
    refine ⟨N', ?_, e2, fun o k ho => (e3 o k ho).trans (uI_no ho), e4⟩
    rw [show ∀ x X, f_X12_setup_60 (n + 1) x X = _ from fun x X => Eq.trans (by unfold f_X12_setup_60; exact rfl) rfl, if_neg (show ¬ (8 : Int32) ≤ nI i from nI_ge (b := 8) (by omega) (by first | decide | simp)), if_neg (nbad (by omega) (by first | decide | simp)), nI_clamp (by omega), show ((0 : Int32) &&& 1) = 0 by decide]
    dsimp only [nm]
    rw [nI_1]
    exact e1
theorem cl81 : ∀ (m i n : Nat) (N : Mem), i + m = 4 → m < n → (∀ j, j < i → N.1 (38, 0, 0) j = 0) → ∃ N', f_X12_setup_81 n (nI i) N = bnd (f_X12_firstSettings 52 N') (fun _ M2 => bnd (f_X12_first 4 M2) (fun _ M5 => f_X12_setup_112 fuelN 0 M5)) ∧ cl_ 38 4 N N' := by
  intro m
  induction m with
  | zero =>
    intro i n N hi hn h
    obtain ⟨n, rfl⟩ : ∃ q, n = q + 1 := ⟨n - 1, by omega⟩
    refine ⟨N, ?_, fun j hj => h j (by omega), fun _ _ _ => rfl, rfl⟩
    rw [show ∀ x X, f_X12_setup_81 (n + 1) x X = _ from fun x X => Eq.trans (by unfold f_X12_setup_81; exact rfl) rfl, if_pos (show (4 : Int32) ≤ nI i by rw [show i = 4 by omega]; decide)]
  | succ m ih =>
    intro i n N hi hn h
    obtain ⟨n, rfl⟩ : ∃ q, n = q + 1 := ⟨n - 1, by omega⟩
    obtain ⟨N', e1, e2, e3, e4⟩ := ih (i + 1) n (uI N (38, 0, 0) i 0) (by omega) (by omega) (fun j hj => by
      by_cases z : j = i
      · rw [z]; exact uI_at
      · rw [uI_q (fun q => z q.2)]; exact h j (by omega))
    refine ⟨N', ?_, e2, fun o k ho => (e3 o k ho).trans (uI_no ho), e4⟩
    rw [show ∀ x X, f_X12_setup_81 (n + 1) x X = _ from fun x X => Eq.trans (by unfold f_X12_setup_81; exact rfl) rfl, if_neg (show ¬ (4 : Int32) ≤ nI i from nI_ge (b := 4) (by omega) (by first | decide | simp)), if_neg (nbad (by omega) (by first | decide | simp)), nI_clamp (by omega), show ((0 : Int32) &&& 1) = 0 by decide]
    dsimp only [nm]
    rw [nI_1]
    exact e1
/-- what a setup may change in the reference -/
def GS (N N' : Mem) : Prop := (∀ o k, ¬ wM o k → ¬ (o = (10, 0, 0) ∧ (k = 0 ∨ k = 2 ∨ k = 9)) → N'.1 o k = N.1 o k) ∧ (∀ o k, ¬ (o = (33, 0, 0) ∧ 40 ≤ k) → N'.2.1 o k = N.2.1 o k) ∧ N'.2.2 = N.2.2
theorem GS.trans {N N' N'' : Mem} (h : GS N N') (k : GS N' N'') : GS N N'' := ⟨fun o i q r => (k.1 o i q r).trans (h.1 o i q r), fun o i q => (k.2.1 o i q).trans (h.2.1 o i q), k.2.2.trans h.2.2⟩
theorem FM.gs {N N' : Mem} (h : FM N N') : GS N N' := ⟨fun o k q _ => h.1 o k q, fun o k _ => by rw [h.2], by rw [h.2]⟩
theorem wM10 {k : Nat} (h : k < 10) : ¬ wM (10, 0, 0) k := by
  rintro (⟨_, q⟩ | ⟨q, _⟩ | ⟨q, _⟩ | q | q | q) <;> first | omega | cases q
theorem wM_no {o : Oid} {k : Nat} (h1 : o.1 ≠ 10) (h2 : o.1 ≠ 31) (h3 : o.1 ≠ 32) (h4 : o.1 ≠ 36) (h5 : o.1 ≠ 37) (h6 : o.1 ≠ 38) : ¬ wM o k := by
  rintro (⟨q, _⟩ | ⟨q, _⟩ | ⟨q, _⟩ | q | q | q)
  · exact h1 (by rw [q])
  · exact h2 (by rw [q])
  · exact h3 (by rw [q])
  · exact h4 q
  · exact h5 q
  · exact h6 q
/-- the draft's block and settings are as at first -/
theorem M_beg {N : Mem} (h7 : N.1 (10, 0, 0) 7 = 0) : ∃ N' V, f_X12_setup_39 fuelN 0 N = f_X12_setup_112 fuelN 0 N' ∧ hasM 4 52 N' V ∧ (∀ j, j < 472 → V.1 (cA j) = if sp (cA j) = false then iniL (cA j) else 0) ∧ (∀ j, j < 52 → V.1 (cS j) = iniL (cS j)) ∧ (∀ j, j < 10 → V.2 (cL j) = 0) ∧ (∀ k, N'.1 (10, 0, 0) k = N.1 (10, 0, 0) k) ∧
    (∀ j, j < 25 → N'.1 (36, 0, 0) j = 0) ∧ (∀ j, j < 8 → N'.1 (37, 0, 0) j = 0) ∧ (∀ j, j < 4 → N'.1 (38, 0, 0) j = 0) ∧ GS N N' := by
  obtain ⟨N1, a1, a2, a3, a4⟩ := cl39 25 0 fuelN N (by first | decide | simp) (by unfold fuelN; decide) (fun j hj => by omega)
  obtain ⟨N2, b1, b2, b3, b4⟩ := cl60 8 0 fuelN N1 (by first | decide | simp) (by unfold fuelN; decide) (fun j hj => by omega)
  obtain ⟨N3, c1, c2, c3, c4⟩ := cl81 4 0 fuelN N2 (by first | decide | simp) (by unfold fuelN; decide) (fun j hj => by omega)
  rw [show nI 0 = (0 : Int32) from rfl] at a1 b1 c1
  obtain ⟨V0, v0⟩ := hasM.vw 4 52 N3
  obtain ⟨V1, d1, d2, d3, d4⟩ := fs_m (σ := 52) v0 (by first | decide | simp)
  have hM1 : hasM 4 52 (putM 4 52 N3 V1) V1 := hasM.new
  obtain ⟨V2, e1, e2, e3, e4⟩ := first_m hM1 (by first | decide | simp)
  rw [show nI 52 = (52 : Int32) from rfl] at d1
  rw [show nI 4 = (4 : Int32) from rfl] at e1
  have n123 : ∀ o k, o.1 ≠ 36 → o.1 ≠ 37 → o.1 ≠ 38 → N3.1 o k = N.1 o k := fun o k q1 q2 q3 => (c3 o k q3).trans ((b3 o k q2).trans (a3 o k q1))
  have n36 : ∀ k, N3.1 (36, 0, 0) k = N1.1 (36, 0, 0) k := fun k => (c3 _ k (by simp)).trans (b3 _ k (by simp))
  have n37 : ∀ k, N3.1 (37, 0, 0) k = N2.1 (37, 0, 0) k := fun k => c3 _ k (by simp)
  have r : ∀ o k, o.1 ≠ 31 → o.1 ≠ 32 → (putM 4 52 (uI (putM 4 52 N3 V1) (10, 0, 0) 7 0) V2).1 o k = (uI N3 (10, 0, 0) 7 0).1 o k := fun o k q1 q2 => by
    rw [putM_no q1 q2]
    unfold uI
    dsimp only
    by_cases z : o = (10, 0, 0) ∧ k = 7
    · rw [if_pos z, if_pos z]
    · rw [if_neg z, if_neg z, putM_no q1 q2]
  have t10 : ∀ k, (putM 4 52 (uI (putM 4 52 N3 V1) (10, 0, 0) 7 0) V2).1 (10, 0, 0) k = N.1 (10, 0, 0) k := fun k => by
    rw [r _ _ (by simp) (by simp)]
    by_cases z : k = 7
    · subst z; rw [uI_at, h7]
    · rw [uI_q (fun q => z q.2), n123 _ _ (by simp) (by simp) (by simp)]
  refine ⟨putM 4 52 (uI (putM 4 52 N3 V1) (10, 0, 0) 7 0) V2, V2, ?_, hasM.new, e2, fun j hj => ?_, e4, t10, fun j hj => ?_, fun j hj => ?_, fun j hj => ?_, fun o k q1 q2 => ?_, fun o k q => ?_, ?_⟩
  · rw [a1, b1, c1, d1, bnd_some, e1, bnd_some]
  · rw [e3 j hj, d2 j hj, ini_S j hj]
  · rw [r _ _ (by simp) (by simp), uI_no (by simp), n36]; exact a2 j hj
  · rw [r _ _ (by simp) (by simp), uI_no (by simp), n37]; exact b2 j hj
  · rw [r _ _ (by simp) (by simp), uI_no (by simp)]; exact c2 j hj
  · by_cases z10 : o = (10, 0, 0)
    · rw [z10]; exact t10 k
    · have k36 : o.1 ≠ 36 := fun z => q1 (Or.inr (Or.inr (Or.inr (Or.inl z))))
      have k37 : o.1 ≠ 37 := fun z => q1 (Or.inr (Or.inr (Or.inr (Or.inr (Or.inl z)))))
      have k38 : o.1 ≠ 38 := fun z => q1 (Or.inr (Or.inr (Or.inr (Or.inr (Or.inr z)))))
      rw [← n123 o k k36 k37 k38]
      have p : ∀ X V, (putM 4 52 X V).1 o k = X.1 o k := fun X V => by
        unfold putM
        dsimp only
        rw [if_neg (fun z => q1 (Or.inr (Or.inr (Or.inl ⟨z.1, by omega⟩)))), if_neg (fun z => q1 (Or.inr (Or.inl ⟨z.1, by omega⟩)))]
      rw [p, uI_q (fun z => z10 z.1), p]
  · have p : ∀ X V, (putM 4 52 X V).2.1 o k = X.2.1 o k := fun X V => by
      unfold putM
      dsimp only
      rw [if_neg (fun z => q ⟨z.1, by omega⟩)]
    rw [p]
    show (putM 4 52 N3 V1).2.1 o k = _
    rw [p, c4, b4, a4]
  · show N3.2.2 = _
    rw [c4, b4, a4]
