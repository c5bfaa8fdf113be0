/-! ===== the reference's first block and first settings ===== -/
theorem hasM.vw (β σ : Nat) (N : Mem) : ∃ V, hasM β σ N V := by
  refine ⟨(fun x => if bk x < 1000 then N.1 (32, 0, 0) (472 * β + bk x) else N.1 (31, 0, 0) (σ + (bk x - 1000)), fun x => N.2.1 (33, 0, 0) (10 * β + (if x.1 = 5 then x.2.2 else x.2.2 + 2))), ?_⟩
  have cl : ∀ i, i < 10 → (if (cL i).1 = 5 then (cL i).2.2 else (cL i).2.2 + 2) = i := by decide +kernel
  unfold hasM putM
  refine Prod.ext (funext fun o => funext fun k => ?_) (Prod.ext (funext fun o => funext fun k => ?_) rfl)
  · dsimp only
    by_cases q : o = (32, 0, 0) ∧ 472 * β ≤ k ∧ k < 472 * β + 472
    · obtain ⟨q1, q2, q3⟩ := q
      subst q1
      rw [if_pos ⟨rfl, q2, q3⟩, bk_A _ (by omega), if_pos (by omega), show 472 * β + (k - 472 * β) = k by omega]
    · rw [if_neg q]
      by_cases q2 : o = (31, 0, 0) ∧ σ ≤ k ∧ k < σ + 52
      · obtain ⟨q1, q2, q3⟩ := q2
        subst q1
        rw [if_pos ⟨rfl, q2, q3⟩, bk_S _ (by omega), if_neg (by omega), show σ + (1000 + (k - σ) - 1000) = k by omega]
      · rw [if_neg q2]
  · dsimp only
    by_cases q : o = (33, 0, 0) ∧ 10 * β ≤ k ∧ k < 10 * β + 10
    · obtain ⟨q1, q2, q3⟩ := q
      subst q1
      rw [if_pos ⟨rfl, q2, q3⟩, cl _ (by omega), show 10 * β + (k - 10 * β) = k by omega]
    · rw [if_neg q]
theorem fs_loop {β σ : Nat} {N : Mem} (hσ : σ ≤ 52) : ∀ (m i n : Nat) (V : LM), i + m = 52 → m < n → ∃ V', f_X12_firstSettings_2 n (nI σ) (nI i) (putM β σ N V) = some ((), putM β σ N V') ∧ (∀ j, i ≤ j → j < 52 → V'.1 (cS j) = if j = 8 then 4 else 0) ∧ V'.1 (cS 8) = 4 ∧ (∀ k, k < 472 → V'.1 (cA k) = V.1 (cA k)) ∧ V'.2 = V.2 ∧ (∀ j, j < i → j ≠ 8 → V'.1 (cS j) = V.1 (cS j)) := by
  intro m
  induction m with
  | zero =>
    intro i n V hi hn
    obtain ⟨n, rfl⟩ : ∃ q, n = q + 1 := ⟨n - 1, by omega⟩
    refine ⟨wI V (cS 8) 4, ?_, fun j h1 h2 => by omega, by rw [rdw, if_pos rfl], fun k hk => if_neg (fun q => cAS hk (by first | decide | simp) q), rfl, fun j h1 h2 => if_neg (fun q => h2 (cS_inj (by omega) (by first | decide | simp) q))⟩
    rw [show ∀ x X, f_X12_firstSettings_2 (n + 1) (nI σ) x X = _ from fun x X => Eq.trans (by unfold f_X12_firstSettings_2; exact rfl) rfl, if_pos (show (52 : Int32) ≤ nI i by rw [show i = 52 by omega]; decide), show nI σ + 8 = nI (σ + 8) from nI_add _ _, if_neg (nbad (by omega) (by first | decide | simp)), nI_clamp (by omega)]
    dsimp only [nm]
    rw [wrS (by first | decide | simp)]
  | succ m ih =>
    intro i n V hi hn
    obtain ⟨n, rfl⟩ : ∃ q, n = q + 1 := ⟨n - 1, by omega⟩
    obtain ⟨V', e1, e2, e3, e4, e5, e6⟩ := ih (i + 1) n (wI V (cS i) 0) (by omega) (by omega)
    refine ⟨V', ?_, fun j h1 h2 => ?_, e3, fun k hk => ?_, e5, fun j h1 h2 => ?_⟩
    · rw [show ∀ x X, f_X12_firstSettings_2 (n + 1) (nI σ) x X = _ from fun x X => Eq.trans (by unfold f_X12_firstSettings_2; exact rfl) rfl, if_neg (show ¬ (52 : Int32) ≤ nI i from nI_ge (b := 52) (by omega) (by first | decide | simp)), nI_add, if_neg (nbad (by omega) (by first | decide | simp)), nI_clamp (by omega)]
      dsimp only [nm]
      rw [wrS (by omega), nI_1]
      exact e1
    · by_cases z : j = i
      · subst z
        by_cases y : j = 8
        · subst y; rw [e3]; rfl
        · rw [e6 j (by omega) y, rdw, if_pos rfl, if_neg y]
      · exact e2 j (by omega) h2
    · rw [e4 k hk]
      exact if_neg (fun q => cAS hk (by omega) q)
    · rw [e6 j (by omega) h2]
      exact if_neg (fun q => by have := cS_inj (by omega) (by omega) q; omega)
theorem fs_m {β σ : Nat} {N : Mem} {V : LM} (h : hasM β σ N V) (hσ : σ ≤ 52) : ∃ V', f_X12_firstSettings (nI σ) N = some ((), putM β σ N V') ∧ (∀ j, j < 52 → V'.1 (cS j) = if j = 8 then 4 else 0) ∧ (∀ k, k < 472 → V'.1 (cA k) = V.1 (cA k)) ∧ V'.2 = V.2 := by
  obtain ⟨V', e1, e2, e3, e4, e5, e6⟩ := fs_loop (β := β) (N := N) hσ 52 0 fuelN V (by first | decide | simp) (by unfold fuelN; decide)
  refine ⟨V', ?_, fun j hj => e2 j (Nat.zero_le j) hj, e4, e5⟩
  rw [show putM β σ N V = N from h] at e1
  unfold f_X12_firstSettings
  exact e1
/-! the block -/
theorem b0_loop {β σ : Nat} {N : Mem} (hb : N.1 (10, 0, 0) 7 = nI β) (hβ : β < 5) : ∀ (m i n : Nat) (V : LM), i + m = 472 → m < n → ∃ V', f_X12_first_7 n (nI β) (nI i) (putM β σ N V) = f_X12_first_28 fuelN (nI β) 0 (putM β σ N V') ∧ (∀ j, i ≤ j → j < 472 → V'.1 (cA j) = 0) ∧ (∀ j, j < i → V'.1 (cA j) = V.1 (cA j)) ∧ (∀ j, j < 52 → V'.1 (cS j) = V.1 (cS j)) ∧ V'.2 = V.2 := by
  intro m
  induction m with
  | zero =>
    intro i n V hi hn
    obtain ⟨n, rfl⟩ : ∃ q, n = q + 1 := ⟨n - 1, by omega⟩
    refine ⟨V, ?_, fun j h1 h2 => by omega, fun _ _ => rfl, fun _ _ => rfl, rfl⟩
    rw [show ∀ x X, f_X12_first_7 (n + 1) (nI β) x X = _ from fun x X => Eq.trans (by unfold f_X12_first_7; exact rfl) rfl, if_pos (show (472 : Int32) ≤ nI i by rw [show i = 472 by omega]; decide)]
  | succ m ih =>
    intro i n V hi hn
    obtain ⟨n, rfl⟩ : ∃ q, n = q + 1 := ⟨n - 1, by omega⟩
    obtain ⟨V', e1, e2, e3, e4, e5⟩ := ih (i + 1) n (wI V (cA i) 0) (by omega) (by omega)
    refine ⟨V', ?_, fun j h1 h2 => ?_, fun j h1 => ?_, fun j hj => ?_, e5⟩
    · rw [show ∀ x X, f_X12_first_7 (n + 1) (nI β) x X = _ from fun x X => Eq.trans (by unfold f_X12_first_7; exact rfl) rfl, if_neg (show ¬ (472 : Int32) ≤ nI i from nI_ge (b := 472) (by omega) (by first | decide | simp)), i_puts hb hβ (by omega) rfl, bnd_some]
      dsimp only [nm]
      rw [nI_1]
      exact e1
    · by_cases z : j = i
      · subst z
        rw [e3 j (by omega)]
        exact if_pos rfl
      · exact e2 j (by omega) h2
    · rw [e3 j (by omega)]
      exact if_neg (fun q => by have := cA_inj (by omega) (by omega) q; omega)
    · rw [e4 j hj]
      exact if_neg (fun q => cAS (i := i) (by omega) hj q.symm)
theorem b1_loop {β σ : Nat} {N : Mem} (hβ : β < 5) : ∀ (m i n : Nat) (V : LM), i + m = 10 → m < n → ∃ V', f_X12_first_28 n (nI β) (nI i) (putM β σ N V) = f_X12_first_54 fuelN 0 (putM β σ N V') ∧ (∀ j, i ≤ j → j < 10 → V'.2 (cL j) = 0) ∧ (∀ j, j < i → V'.2 (cL j) = V.2 (cL j)) ∧ V'.1 = V.1 := by
  intro m
  induction m with
  | zero =>
    intro i n V hi hn
    obtain ⟨n, rfl⟩ : ∃ q, n = q + 1 := ⟨n - 1, by omega⟩
    refine ⟨V, ?_, fun j h1 h2 => by omega, fun _ _ => rfl, rfl⟩
    rw [show ∀ x X, f_X12_first_28 (n + 1) (nI β) x X = _ from fun x X => Eq.trans (by unfold f_X12_first_28; exact rfl) rfl, if_pos (show (10 : Int32) ≤ nI i by rw [show i = 10 by omega]; decide)]
  | succ m ih =>
    intro i n V hi hn
    obtain ⟨n, rfl⟩ : ∃ q, n = q + 1 := ⟨n - 1, by omega⟩
    obtain ⟨V', e1, e2, e3, e4⟩ := ih (i + 1) n (wL V (cL i) 0) (by omega) (by omega)
    refine ⟨V', ?_, fun j h1 h2 => ?_, fun j h1 => ?_, e4⟩
    · rw [show ∀ x X, f_X12_first_28 (n + 1) (nI β) x X = _ from fun x X => Eq.trans (by unfold f_X12_first_28; exact rfl) rfl, if_neg (show ¬ (10 : Int32) ≤ nI i from nI_ge (b := 10) (by omega) (by first | decide | simp)), ixs0, if_neg (nbad (by omega) (by first | decide | simp)), nI_clamp (by omega)]
      dsimp only [nm]
      rw [wrL (by omega), nI_1]
      exact e1
    · by_cases z : j = i
      · subst z
        rw [e3 j (by omega)]
        exact if_pos rfl
      · exact e2 j (by omega) h2
    · rw [e3 j (by omega)]
      exact if_neg (fun q => by have := cL_inj q (by omega) (by omega); omega)
def ch1 (i : Nat) (V : LM) : LM := wI (wI (wI (wI V (0, 0, i) 3) (0, 4, i) 1) (0, 6, i) (-1)) (0, 7, i) (-1)
def chI : Nat → Nat → LM → LM
  | 0, _, V => V
  | m + 1, i, V => chI m (i + 1) (ch1 i V)
def sq1 (V : LM) : LM := wI (wI (wI (wI V (5, 6, 0) (-1)) (5, 7, 0) (-1)) (5, 6, 1) (-1)) (5, 7, 1) (-1)
theorem b3_loop {β σ : Nat} {N : Mem} (hb : N.1 (10, 0, 0) 7 = nI β) (hβ : β < 5) : ∀ (m i n : Nat) (V : LM), i + m = 8 → m < n → f_X12_first_87 n (nI i) (putM β σ N V) = some ((), uI (putM β σ N (chI m i V)) (10, 0, 0) 7 0) := by
  intro m
  induction m with
  | zero =>
    intro i n V hi hn
    obtain ⟨n, rfl⟩ : ∃ q, n = q + 1 := ⟨n - 1, by omega⟩
    rw [show ∀ x X, f_X12_first_87 (n + 1) x X = _ from fun x X => Eq.trans (by unfold f_X12_first_87; exact rfl) rfl, if_pos (show (8 : Int32) ≤ nI i by rw [show i = 8 by omega]; decide)]
    rfl
  | succ m ih =>
    intro i n V hi hn
    obtain ⟨n, rfl⟩ : ∃ q, n = q + 1 := ⟨n - 1, by omega⟩
    have h8 : i < 8 := by omega
    rw [show ∀ x X, f_X12_first_87 (n + 1) x X = _ from fun x X => Eq.trans (by unfold f_X12_first_87; exact rfl) rfl, if_neg (show ¬ (8 : Int32) ≤ nI i from nI_ge (b := 8) (by omega) (by first | decide | simp)), chan_0, bnd_some, putschan_0 hb hβ h8, bnd_some, chan_3, bnd_some, putschan_3 hb hβ h8, bnd_some, chan_5, bnd_some, putschan_5 hb hβ h8, bnd_some, chan_6, bnd_some, putschan_6 hb hβ h8, bnd_some]
    dsimp only [nm]
    rw [nI_1, ih (i + 1) n _ (by omega) (by omega)]
    rfl
theorem b2 {β σ n : Nat} {N : Mem} {V : LM} (hb : N.1 (10, 0, 0) 7 = nI β) (hβ : β < 5) (hn : 3 ≤ n) : f_X12_first_54 n 0 (putM β σ N V) = some ((), uI (putM β σ N (chI 8 0 (sq1 V))) (10, 0, 0) 7 0) := by
  obtain ⟨n, rfl⟩ : ∃ q, n = q + 1 + 1 + 1 := ⟨n - 3, by omega⟩
  have l : (0 : Nat) < 2 := by decide
  have l1 : (1 : Nat) < 2 := by decide
  have en : ∀ k x X, f_X12_first_54 (k + 1) x X = _ := fun k x X => Eq.trans (by unfold f_X12_first_54; exact rfl) rfl
  have b3 := b3_loop (σ := σ) hb hβ 8 0 fuelN (sq1 V) (by first | decide | simp) (by unfold fuelN; decide)
  rw [show nI 0 = (0 : Int32) from rfl] at b3
  rw [en, if_neg (by first | decide | simp), seq_0_2, bnd_some, putsseq_2 hb hβ l, bnd_some, seq_0_3, bnd_some, putsseq_3 hb hβ l, bnd_some]
  dsimp only [nm]
  rw [show (0 : Int32) + 1 = 1 by decide, en, if_neg (by first | decide | simp), seq_1_2, bnd_some, putsseq_2 hb hβ l1, bnd_some, seq_1_3, bnd_some, putsseq_3 hb hβ l1, bnd_some]
  dsimp only [nm]
  rw [show (1 : Int32) + 1 = 2 by decide, en, if_pos (by first | decide | simp)]
  exact b3
def chw : Cl → Bool := fun x => match x with
  | (0, f, _) => Nat.beq f 0 || Nat.beq f 4 || Nat.beq f 6 || Nat.beq f 7
  | (5, f, _) => Nat.beq f 6 || Nat.beq f 7
  | _ => false
theorem ch1_no {V : LM} {x : Cl} {i : Nat} (h : chw x = false) : (ch1 i V).1 x = V.1 x := by
  have n : ∀ y : Cl, chw y = true → x ≠ y := fun y hy q => by rw [q, hy] at h; cases h
  unfold ch1
  rw [rdw, if_neg (n _ rfl), rdw, if_neg (n _ rfl), rdw, if_neg (n _ rfl), rdw, if_neg (n _ rfl)]
theorem chI_no {x : Cl} (h : chw x = false) : ∀ (m i : Nat) (V : LM), (chI m i V).1 x = V.1 x := by
  intro m
  induction m with
  | zero => intro i V; rfl
  | succ m ih =>
    intro i V
    show (chI m (i + 1) (ch1 i V)).1 x = _
    rw [ih, ch1_no h]
theorem sq1_no {V : LM} {x : Cl} (h : chw x = false) : (sq1 V).1 x = V.1 x := by
  have n : ∀ y : Cl, chw y = true → x ≠ y := fun y hy q => by rw [q, hy] at h; cases h
  unfold sq1
  rw [rdw, if_neg (n _ rfl), rdw, if_neg (n _ rfl), rdw, if_neg (n _ rfl), rdw, if_neg (n _ rfl)]
theorem wI_c {V W : LM} {x a : Cl} {v : Int32} (h : V.1 x = W.1 x) : (wI V a v).1 x = (wI W a v).1 x := by
  rw [rdw, rdw, h]
theorem chI_c {x : Cl} : ∀ (m i : Nat) (V W : LM), V.1 x = W.1 x → (chI m i V).1 x = (chI m i W).1 x := by
  intro m
  induction m with
  | zero => intro i V W h; exact h
  | succ m ih =>
    intro i V W h
    exact ih (i + 1) (ch1 i V) (ch1 i W) (wI_c (wI_c (wI_c (wI_c h))))
theorem sq1_c {x : Cl} {V W : LM} (h : V.1 x = W.1 x) : (sq1 V).1 x = (sq1 W).1 x := wI_c (wI_c (wI_c (wI_c h)))
theorem wI2 {V : LM} {a : Cl} {v : Int32} : (wI V a v).2 = V.2 := rfl
theorem chI_2 : ∀ (m i : Nat) (V : LM), (chI m i V).2 = V.2 := by
  intro m
  induction m with
  | zero => intro i V; rfl
  | succ m ih => intro i V; exact ih (i + 1) (ch1 i V)
def z0 : LM := (fun _ => 0, fun _ => 0)
theorem ini_A : ∀ j, j < 472 → (chI 8 0 (sq1 z0)).1 (cA j) = if sp (cA j) = false then iniL (cA j) else 0 := by decide +kernel
theorem ini_S : ∀ j, j < 52 → iniL (cS j) = if j = 8 then 4 else 0 := by decide +kernel
theorem chw_S : ∀ j, j < 52 → chw (cS j) = false := by decide +kernel
theorem uI_uI {M : Mem} {o : Oid} {k : Nat} {x y : Int32} : uI (uI M o k x) o k y = uI M o k y := by
  unfold uI
  refine Prod.ext (funext fun q => funext fun f => ?_) rfl
  dsimp only
  by_cases h : q = o ∧ f = k
  · rw [if_pos h, if_pos h]
  · rw [if_neg h, if_neg h, if_neg h]
theorem first_m {β σ : Nat} {N : Mem} {V : LM} (h : hasM β σ N V) (hβ : β < 5) : ∃ V', f_X12_first (nI β) N = some ((), putM β σ (uI N (10, 0, 0) 7 0) V') ∧ (∀ j, j < 472 → V'.1 (cA j) = if sp (cA j) = false then iniL (cA j) else 0) ∧ (∀ j, j < 52 → V'.1 (cS j) = V.1 (cS j)) ∧ (∀ j, j < 10 → V'.2 (cL j) = 0) := by
  have h1 : hasM β σ (uI N (10, 0, 0) 7 (nI β)) V := h.ui (by simp) (by simp)
  have hb : (uI N (10, 0, 0) 7 (nI β)).1 (10, 0, 0) 7 = nI β := uI_at
  obtain ⟨V1, a1, a2, a3, a4, a5⟩ := b0_loop (σ := σ) hb hβ 472 0 fuelN V (by first | decide | simp) (by unfold fuelN; decide)
  obtain ⟨V2, c1, c2, c3, c4⟩ := b1_loop (σ := σ) (N := uI N (10, 0, 0) 7 (nI β)) hβ 10 0 fuelN V1 (by first | decide | simp) (by unfold fuelN; decide)
  have d := b2 (σ := σ) (n := fuelN) (V := V2) hb hβ (by unfold fuelN; decide)
  rw [show putM β σ (uI N (10, 0, 0) 7 (nI β)) V = uI N (10, 0, 0) 7 (nI β) from h1, show nI 0 = (0 : Int32) from rfl] at a1
  rw [show nI 0 = (0 : Int32) from rfl] at c1
  refine ⟨chI 8 0 (sq1 V2), ?_, fun j hj => ?_, fun j hj => ?_, fun j hj => ?_⟩
  · unfold f_X12_first
    dsimp only [nm]
    rw [a1, c1, d, putM_uI (o := (10, 0, 0)) (x := nI β) (by simp) (by simp), putM_uI (o := (10, 0, 0)) (x := 0) (by simp) (by simp), uI_uI]
  · rw [← ini_A j hj]
    refine chI_c 8 0 _ _ (sq1_c ?_)
    rw [c4, a2 j (Nat.zero_le j) hj]
    rfl
  · rw [chI_no (chw_S j hj), sq1_no (chw_S j hj), c4, a4 j hj]
  · rw [chI_2]
    exact c2 j (Nat.zero_le j) hj
