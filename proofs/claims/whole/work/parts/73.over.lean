/-! ===== predictions of overruns ===== -/
theorem i32_as {b x : Int32} : b + x - b = x := by
  rw [Int32.sub_eq_add_neg, Int32.add_comm b x, Int32.add_assoc, Int32.add_right_neg, Int32.add_zero]
theorem ov_loop {n E : Nat} (hn : n ≤ 5000) (hE : E ≤ 5000) (b : Int32) : ∀ (m i d f g t : Nat) (L V : LM), i + m = n → m < f → m < g → R t t L V → t + m < 2 ^ 30 → d ≤ i → L.1 (4, 6, 0) = b + nI d → ∃ D D' t' L' V' LE VE tE, D ≤ n ∧ d ≤ D ∧ D' ≤ D ∧ (D' = D ∨ E ≤ D') ∧ (∀ M, M.1 (4, 1, 0) 6 = b → f_X11_countOverruns_25 f (nI n) (nI E) (nI d) (nI i) (putC 5 M L) = some (nI D', putC 5 M LE)) ∧ (∀ N, N.1 (10, 0, 0) 7 = nI 3 → f_X12_overrunsAt_21 g (nI n) b (nI i) (putM 3 0 N V) = some (nI D, uI (putM 3 0 N V') (10, 0, 0) 7 0)) ∧ R t' t' L' V' ∧ Stc L L' ∧ R tE tE LE VE := by
  intro m
  induction m with
  | zero =>
    intro i d f g t L V hi hf hg h ht hd hb
    obtain ⟨f, rfl⟩ : ∃ k, f = k + 1 := ⟨f - 1, by omega⟩
    obtain ⟨g, rfl⟩ : ∃ k, g = k + 1 := ⟨g - 1, by omega⟩
    refine ⟨d, d, t, L, V, L, V, t, by omega, Nat.le_refl d, Nat.le_refl d, Or.inl rfl, fun M _ => ?_, fun N h7 => ?_, h, Stc.refl L, h⟩
    · rw [show f_X11_countOverruns_25 (f + 1) (nI n) (nI E) (nI d) (nI i) (putC 5 M L) = _ from Eq.trans (by unfold f_X11_countOverruns_25; exact rfl) rfl, if_pos (nI_le (by omega) (by omega))]
    · rw [show f_X12_overrunsAt_21 (g + 1) (nI n) b (nI i) (putM 3 0 N V) = _ from Eq.trans (by unfold f_X12_overrunsAt_21; exact rfl) rfl, if_pos (nI_le (by omega) (by omega)), its_8 h7 (by first | decide | simp), bnd_some, h.1.1 (4, 6, 0) rfl, hb, i32_as]
      rfl
  | succ m ih =>
    intro i d f g t L V hi hf hg h ht hd hb
    obtain ⟨f, rfl⟩ : ∃ k, f = k + 1 := ⟨f - 1, by omega⟩
    obtain ⟨g, rfl⟩ : ∃ k, g = k + 1 := ⟨g - 1, by omega⟩
    obtain ⟨L1, V1, a1, a2, a3, a4⟩ := S_pc h (by omega)
    obtain ⟨d1, hd1, hd2, hb1⟩ : ∃ d1, d ≤ d1 ∧ d1 ≤ d + 1 ∧ L1.1 (4, 6, 0) = b + nI d1 := by
      rcases a4.2 with q | q
      · exact ⟨d, Nat.le_refl d, by omega, by rw [q, hb]⟩
      · exact ⟨d + 1, by omega, Nat.le_refl _, by rw [q, hb, Int32.add_assoc, nI_1]⟩
    obtain ⟨D, D', t', L', V', LE, VE, tE, r1, r2, r3, r4, r5, r6, r7, r8, r9⟩ := ih (i + 1) d1 f g (t + 1) L1 V1 (by omega) (by omega) (by omega) a3 (by omega) (by omega) hb1
    have ms : ∀ N, N.1 (10, 0, 0) 7 = nI 3 → f_X12_overrunsAt_21 (g + 1) (nI n) b (nI i) (putM 3 0 N V) = some (nI D, uI (putM 3 0 N V') (10, 0, 0) 7 0) := fun N h7 => by
      rw [show f_X12_overrunsAt_21 (g + 1) (nI n) b (nI i) (putM 3 0 N V) = _ from Eq.trans (by unfold f_X12_overrunsAt_21; exact rfl) rfl, if_neg (nI_ge (by omega) (by omega)), a2 3 N h7 (by first | decide | simp), bnd_some]
      dsimp only [nm]
      rw [nI_1]
      exact r6 N h7
    by_cases q : E ≤ d
    · refine ⟨D, d, t', L', V', L, V, t, r1, by omega, by omega, Or.inr q, fun M _ => ?_, ms, r7, a4.1.trans r8, h⟩
      rw [show f_X11_countOverruns_25 (f + 1) (nI n) (nI E) (nI d) (nI i) (putC 5 M L) = _ from Eq.trans (by unfold f_X11_countOverruns_25; exact rfl) rfl, if_neg (nI_ge (by omega) (by omega)), if_pos (nI_le (by omega) (by omega))]
    · refine ⟨D, D', t', L', V', LE, VE, tE, r1, by omega, r3, r4, fun M hM => ?_, ms, r7, a4.1.trans r8, r9⟩
      rw [show f_X11_countOverruns_25 (f + 1) (nI n) (nI E) (nI d) (nI i) (putC 5 M L) = _ from Eq.trans (by unfold f_X11_countOverruns_25; exact rfl) rfl, if_neg (nI_ge (by omega) (by omega)), if_neg (nI_ge (by omega) (by omega)), h_X3_passCycle, a1, mg_some, bnd_some]
      dsimp only [nm]
      have e2 : (putC 5 M L1).1 (4, 5, 0) 6 = L1.1 (4, 6, 0) := (hasC.new (c := 5) (M := M) (L := L1)).I rfl
      have e1 : (putC 5 M L1).1 (4, 1, 0) 6 = b := by
        show (if cvK 4 = true ∧ (1 : Nat) = 5 then L1.1 (4, 6, 0) else M.1 (4, 1, 0) 6) = b
        rw [if_neg (fun q => absurd q.2 (by first | decide | simp))]
        exact hM
      rw [e2, e1, hb1, i32_as, nI_1]
      exact r5 M hM
/-- one trial at a pace -/
theorem ov_at {B t n E p : Nat} {M : Mem} {L V : LM} (h : InX B M t L V) (hB : B + 5000 < 2 ^ 30) (hn : n ≤ 5000) (hE : E ≤ 5000) (hp : p ≤ 999) : ∃ D D' M1, D ≤ n ∧ D' ≤ D ∧ (D' = D ∨ E ≤ D') ∧ f_X11_countOverruns (nI p) (nI n) (nI E) M = some (nI D', M1) ∧ Tr M M1 ∧ (∀ N, hasM 0 0 N V → N.1 (10, 0, 0) 7 = 0 → ∃ M2, f_X12_overrunsAt (nI p) (nI n) N = some (nI D, M2) ∧ Tr N M2) := by
  have ht := h.1
  obtain ⟨L1, V1, c1, c2, c3, c4, c5⟩ := cp2 h
  have hR : R t t (wI L1 (2, 14, 0) (nI p)) (wI V1 (2, 14, 0) (nI p)) := c2.wst rfl (c2.2.1.w (Or.inr (Or.inr ⟨rfl, p, hp, rfl⟩)))
  have e6 : L1.1 (4, 6, 0) = L.1 (4, 6, 0) := by
    rw [← c2.1.1 (4, 6, 0) rfl, ← h.2.2.2.1.1.1 (4, 6, 0) rfl]
    exact c3 8 (by first | decide | simp)
  obtain ⟨D, D', t', L', V', LE, VE, tE, r1, r2, r3, r4, r5, r6, r7, r8, r9⟩ := ov_loop hn hE (L.1 (4, 6, 0)) n 0 0 fuelN fuelN t _ _ (by omega) (by unfold fuelN; omega) (by unfold fuelN; omega) hR (by omega) (Nat.le_refl 0) (by
    rw [rdw, if_neg (by simp), e6, show nI 0 = (0 : Int32) from rfl, Int32.add_zero])
  have hs : ∀ i, i < 52 → V'.1 (cS i) = V.1 (cS i) := fun i hi => ((hR.stv r7 r8 i hi).trans (cS_no (a := (2, 14, 0)) (by first | decide | simp) i hi)).trans (c4 i hi)
  refine ⟨D, D', putC 5 M LE, r1, r3, r4, ?_, Tr.c2 r9.mk_, fun N hN h7 => ⟨trE N V', ?_, Tr.e hN h7 hs⟩⟩
  · unfold f_X11_countOverruns
    rw [c1, bnd_some]
    dsimp only [nm]
    rw [uI_putC rfl]
    exact r5 M (h.2.1.I rfl)
  · unfold f_X12_overrunsAt
    have h73 : (uI N (10, 0, 0) 7 3).1 (10, 0, 0) 7 = nI 3 := uI_at
    rw [bgT hN c3 c4 c5, bnd_some, its_8 h73 (by first | decide | simp), bnd_some, puts_10 h73 (by first | decide | simp), bnd_some, c2.1.1 (4, 6, 0) rfl, e6]
    exact r6 _ h73
theorem A_overrunsWith {B t : Nat} {M : Mem} {L V : LM} (h : InX B M t L V) (hB : B + 5000 < 2 ^ 30) (x y : Int32) : Ans (cd1 1) (f_X11_overrunsWith x y M) (f_X12_overrunsWith x y) M B := by
  by_cases hx : 0 ≤ x ∧ x ≤ 999
  · by_cases hy : 1 ≤ y ∧ y ≤ 5000
    · obtain ⟨n, hn, rfl⟩ := rng (x := y) (n := 5000) (by first | decide | simp) ⟨Int32.le_trans (by first | decide | simp) hy.1, hy.2⟩
      obtain ⟨p, hp, rfl⟩ := rng (n := 999) (by first | decide | simp) hx
      obtain ⟨D, D', M1, r1, r2, r3, r4, r5, r6⟩ := ov_at (E := 5000) h hB hn (Nat.le_refl _) hp
      have e : D' = D := by omega
      subst e
      refine Ans.pr (v := nI D') h (Nat.le_refl B) ?_ r5 (fun N hN h7 => ?_)
      · unfold f_X11_overrunsWith
        rw [rq_p1 hx, bndX_l, rq_y1 hy, bndX_l, show (5000 : Int32) = nI 5000 from rfl, r4, bnd_some]
      · obtain ⟨M2, e2, k2⟩ := r6 _ (hN.ui (k := 0) (o := (10, 0, 0)) (x := 0) (by first | decide | simp) (by first | decide | simp)) (by rw [h7u0]; exact h7)
        refine ⟨M2, ?_, k2⟩
        unfold f_X12_overrunsWith f_X12_overrunsWith_28
        rw [iR1 hx, bnd_some, if_neg (by first | decide | simp), iR1 hy, bnd_some, if_neg (by first | decide | simp), fzM0 hN, bnd_some, if_pos rfl, e2, bnd_some]
    · refine Ans.thr (e := 1) (b := 0) h (Nat.le_refl B) ?_ (by first | decide | simp) (fun N h7 => ?_)
      · unfold f_X11_overrunsWith
        rw [rq_p1 hx, bndX_l, rq_y0 hy, bndX_r]
      · unfold f_X12_overrunsWith f_X12_overrunsWith_23 f_X12_overrunsWith_28
        rw [iR1 hx, bnd_some, if_neg (by first | decide | simp), iR0 hy, bnd_some, if_pos rfl, fz1, bnd_some, if_neg (by first | decide | simp)]
        rfl
  · refine Ans.thr (e := 1) (b := 0) h (Nat.le_refl B) ?_ (by first | decide | simp) (fun N h7 => ?_)
    · unfold f_X11_overrunsWith
      rw [rq_p0 hx, bndX_r]
    · unfold f_X12_overrunsWith f_X12_overrunsWith_23 f_X12_overrunsWith_28
      rw [iR0 hx, bnd_some, if_pos rfl, fz1, bnd_some, if_neg (by first | decide | simp)]
      rfl
theorem sp_loop {B t n : Nat} {L V : LM} (hB : B + 5000 < 2 ^ 30) (hn : n ≤ 500) : ∀ (p f g : Nat) (M : Mem), InX B M t L V → p ≤ 60 → p < f → p < g → ∃ v M1, f_X11_slowestPace_10 f (nI n) (nI p) M = some (.inl v, M1) ∧ Tr M M1 ∧ (∀ N, hasM 0 0 N V → N.1 (10, 0, 0) 7 = 0 → ∃ M2, f_X12_slowestPace_30 g (nI n) (nI p) N = some (v, M2) ∧ Tr N M2) := by
  intro p
  induction p with
  | zero =>
    intro f g M h hp hf hg
    obtain ⟨f, rfl⟩ : ∃ k, f = k + 1 := ⟨f - 1, by omega⟩
    obtain ⟨g, rfl⟩ : ∃ k, g = k + 1 := ⟨g - 1, by omega⟩
    refine ⟨-1, M, ?_, Tr.refl M, fun N hN h7 => ⟨N, ?_, Tr.refl N⟩⟩
    · rw [show f_X11_slowestPace_10 (f + 1) (nI n) (nI 0) M = _ from Eq.trans (by unfold f_X11_slowestPace_10; exact rfl) rfl, if_pos (by first | decide | simp)]
    · rw [show f_X12_slowestPace_30 (g + 1) (nI n) (nI 0) N = _ from Eq.trans (by unfold f_X12_slowestPace_30; exact rfl) rfl, if_pos (by first | decide | simp)]
  | succ p ih =>
    intro f g M h hp hf hg
    obtain ⟨f, rfl⟩ : ∃ k, f = k + 1 := ⟨f - 1, by omega⟩
    obtain ⟨g, rfl⟩ : ∃ k, g = k + 1 := ⟨g - 1, by omega⟩
    obtain ⟨D, D', M1, r1, r2, r3, r4, r5, r6⟩ := ov_at (E := 1) (p := p + 1) h hB (n := n) (by omega) (by first | decide | simp) (by omega)
    have e1 : ¬ nI (p + 1) < 1 := Int32.not_lt.mpr (nI_le (a := 1) (by omega) (by omega))
    have em : nI (p + 1) + (-1) = nI p := by
      rw [← nI_1, Int32.add_assoc, show (1 : Int32) + (-1) = 0 by decide, Int32.add_zero]
    have hz : ∀ d : Nat, d ≤ n → (nI d = 0 ↔ d = 0) := fun d hd => ⟨fun q => nIi (b := 0) q (by omega) (by first | decide | simp), fun q => by rw [q]; rfl⟩
    rw [show (nI 1) = (1 : Int32) from rfl] at r4
    by_cases q : D' = 0
    · have qD : D = 0 := by omega
      refine ⟨nI (p + 1), M1, ?_, r5, fun N hN h7 => ?_⟩
      · rw [show f_X11_slowestPace_10 (f + 1) (nI n) (nI (p + 1)) M = _ from Eq.trans (by unfold f_X11_slowestPace_10; exact rfl) rfl, if_neg e1, r4, bnd_some, if_pos ((hz D' (by omega)).mpr q)]
      · obtain ⟨M2, e2, k2⟩ := r6 N hN h7
        refine ⟨M2, ?_, k2⟩
        rw [show f_X12_slowestPace_30 (g + 1) (nI n) (nI (p + 1)) N = _ from Eq.trans (by unfold f_X12_slowestPace_30; exact rfl) rfl, if_neg e1, e2, bnd_some, if_pos ((hz D (by omega)).mpr qD)]
    · have qD : ¬ D = 0 := by omega
      obtain ⟨v, M3, s1, s2, s3⟩ := ih f g M1 (h.tr r5) (by omega) (by omega) (by omega)
      refine ⟨v, M3, ?_, r5.trans s2, fun N hN h7 => ?_⟩
      · rw [show f_X11_slowestPace_10 (f + 1) (nI n) (nI (p + 1)) M = _ from Eq.trans (by unfold f_X11_slowestPace_10; exact rfl) rfl, if_neg e1, r4, bnd_some, if_neg (fun z => q ((hz D' (by omega)).mp z))]
        dsimp only [nm]
        rw [em]
        exact s1
      · obtain ⟨M2, e2, k2⟩ := r6 N hN h7
        obtain ⟨M4, e4, k4⟩ := s3 M2 (k2.2.2.1 V hN) (by rw [k2.2.2.2.2.1]; exact h7)
        refine ⟨M4, ?_, k2.trans k4⟩
        rw [show f_X12_slowestPace_30 (g + 1) (nI n) (nI (p + 1)) N = _ from Eq.trans (by unfold f_X12_slowestPace_30; exact rfl) rfl, if_neg e1, e2, bnd_some, if_neg (fun z => qD ((hz D (by omega)).mp z))]
        dsimp only [nm]
        rw [em]
        exact e4
theorem A_slowestPace {B t : Nat} {M : Mem} {L V : LM} (h : InX B M t L V) (hB : B + 5000 < 2 ^ 30) (y : Int32) : Ans (cd1 1) (f_X11_slowestPace y M) (f_X12_slowestPace y) M B := by
  by_cases hy : 1 ≤ y ∧ y ≤ 500
  · obtain ⟨n, hn, rfl⟩ := rng (x := y) (n := 500) (by first | decide | simp) ⟨Int32.le_trans (by first | decide | simp) hy.1, hy.2⟩
    obtain ⟨v, M1, s1, s2, s3⟩ := sp_loop hB hn 60 fuelN fuelN M h (Nat.le_refl _) (by unfold fuelN; decide) (by unfold fuelN; decide)
    refine Ans.pr (v := v) h (Nat.le_refl B) ?_ s2 (fun N hN h7 => ?_)
    · unfold f_X11_slowestPace
      rw [rq_y1 hy, bndX_l]
      exact s1
    · obtain ⟨M2, e2, k2⟩ := s3 _ (hN.ui (k := 0) (o := (10, 0, 0)) (x := 0) (by first | decide | simp) (by first | decide | simp)) (by rw [h7u0]; exact h7)
      refine ⟨M2, ?_, k2⟩
      unfold f_X12_slowestPace f_X12_slowestPace_17
      rw [iR1 hy, bnd_some, if_neg (by first | decide | simp), fzM0 hN, bnd_some, if_pos rfl]
      exact e2
  · refine Ans.thr (e := 1) (b := 0) h (by omega) ?_ (by first | decide | simp) (fun N h7 => ?_)
    · unfold f_X11_slowestPace
      rw [rq_y0 hy, bndX_r]
    · unfold f_X12_slowestPace f_X12_slowestPace_17
      rw [iR0 hy, bnd_some, if_pos rfl, fz1, bnd_some, if_neg (by first | decide | simp)]
      rfl
