/-! ===== predictions: a copy runs, the converter stays ===== -/
def Tr (N M2 : Mem) : Prop := Kp N M2 ∧ (∀ X, hasC 1 N X → hasC 1 M2 X) ∧ (∀ X, hasM 0 0 N X → hasM 0 0 M2 X) ∧ M2.1 (10, 0, 0) 0 = N.1 (10, 0, 0) 0 ∧ M2.1 (10, 0, 0) 7 = N.1 (10, 0, 0) 7 ∧ M2.2.1 (40, 0, 0) 0 = N.2.1 (40, 0, 0) 0
theorem Tr.refl (M : Mem) : Tr M M := ⟨Kp.refl M, fun _ h => h, fun _ h => h, rfl, rfl, rfl⟩
theorem Tr.trans {M M' M'' : Mem} (h : Tr M M') (k : Tr M' M'') : Tr M M'' := ⟨h.1.trans k.1, fun X q => k.2.1 X (h.2.1 X q), fun X q => k.2.2.1 X (h.2.2.1 X q), k.2.2.2.1.trans h.2.2.2.1, k.2.2.2.2.1.trans h.2.2.2.2.1, k.2.2.2.2.2.trans h.2.2.2.2.2⟩
theorem Tr.c2 {M : Mem} {L : LM} (hm : MkC L) : Tr M (putC 5 M L) := ⟨Kp.c (by first | decide | simp) (by first | decide | simp) hm, fun X q => q.c (by first | decide | simp), fun X q => q.c, putC_no rfl, putC_no rfl, by
  unfold putC
  dsimp only
  rw [if_neg (fun q => by cases q.1)]⟩
theorem InX.tr {B t : Nat} {M M' : Mem} {L V : LM} (h : InX B M t L V) (k : Tr M M') : InX B M' t L V := h.kp k.1 (k.2.1 L) (k.2.2.1 V)
def trE (N : Mem) (V : LM) : Mem := uI (putM 3 0 (uI N (10, 0, 0) 7 3) V) (10, 0, 0) 7 0
theorem h70 {N : Mem} {z : Int32} : (uI N (10, 0, 0) 7 z).1 (10, 0, 0) 0 = N.1 (10, 0, 0) 0 := by
  unfold uI
  dsimp only
  rw [if_neg (fun q => absurd q.2 (by first | decide | simp))]
theorem Tr.e {N : Mem} {V V2 : LM} (h : hasM 0 0 N V) (h7 : N.1 (10, 0, 0) 7 = 0) (hs : ∀ i, i < 52 → V2.1 (cS i) = V.1 (cS i)) : Tr N (trE N V2) := by
  unfold trE
  refine ⟨Kp.blk (x := 3) (Kp.m (Or.inr rfl) (fun i hi => by rw [hs i hi, uI_no (by simp)]; exact (h.S hi).symm)) h7, fun X q => ((q.ui (fun q => absurd q (by first | decide | simp))).m).ui (fun q => absurd q (by first | decide | simp)), fun X q => ((q.ui (by first | decide | simp) (by first | decide | simp)).m (by first | decide | simp) (fun i hi => by rw [hs i hi, ← h.S hi, q.S hi])).ui (by first | decide | simp) (by first | decide | simp), ?_, ?_, ?_⟩
  · rw [h70, putM_no (by simp) (by simp), h70]
  · rw [h7]; exact uI_at
  · show (putM 3 0 (uI N (10, 0, 0) 7 3) V2).2.1 (40, 0, 0) 0 = N.2.1 (40, 0, 0) 0
    rw [putM_noL (by simp)]
    rfl
theorem Ans.pr {cd : Nat → Int32} {F : Option ((Int32 ⊕ Nat) × Mem)} {E : Mem → Option (Int32 × Mem)} {M M1 : Mem} {B B' t : Nat} {L V : LM} {v : Int32} (h : InX B M t L V) (hB : B ≤ B') (hF : F = some (.inl v, M1)) (k : Tr M M1) (hE : ∀ N, hasM 0 0 N V → N.1 (10, 0, 0) 7 = 0 → ∃ M2, E N = some (v, M2) ∧ Tr (uI N (10, 0, 0) 0 0) M2) : Ans cd F E M B' := by
  refine Or.inr ⟨v, M1, hF, fun w => ?_⟩
  have h1 := (h.tr k).ul (k := 0) w
  obtain ⟨M2, e2, k2⟩ := hE _ h1.2.2.1 h1.h7
  refine ⟨M2, e2, k2.2.2.2.1.trans uI_at, k2.2.2.2.2.2.trans ul40, ⟨t, L, V, ((h1.ui0 0).tr k2).up hB⟩⟩
theorem cp2 {B t : Nat} {M : Mem} {L V : LM} (h : InX B M t L V) : ∃ L1 V1, f_X3_copyFrom 5 1 M = some ((), putC 5 M L1) ∧ R t t L1 V1 ∧ (∀ i, i < 472 → V1.1 (cA i) = V.1 (cA i)) ∧ (∀ i, i < 52 → V1.1 (cS i) = V.1 (cS i)) ∧ (∀ i, i < 10 → V1.2 (cL i) = V.2 (cL i)) := by
  obtain ⟨hB, hC, hM, hR, r1, r2, r3, r4, r5⟩ := h
  obtain ⟨M1, e1, c1⟩ := cp_X3 (a := 5) (c := 1) (M := M) (by first | decide | simp) (hR.bzc hC)
  obtain ⟨L1, V1, g1, g2, g3, g4, g5, g6⟩ := hR.copy hC c1 (fun j hj => r4 _ (by first | decide | simp) j hj)
  subst g2
  exact ⟨L1, V1, e1, g3, g4, g5, g6⟩
theorem bgT {N : Mem} {V V1 : LM} (h : hasM 0 0 N V) (g4 : ∀ i, i < 472 → V1.1 (cA i) = V.1 (cA i)) (g5 : ∀ i, i < 52 → V1.1 (cS i) = V.1 (cS i)) (g6 : ∀ i, i < 10 → V1.2 (cL i) = V.2 (cL i)) : f_X12_beginTrial N = some ((), putM 3 0 (uI N (10, 0, 0) 7 3) V1) := by
  unfold f_X12_beginTrial
  have qc : f_X12_copyBlock 0 3 N = _ := M_cbs (a := 0) (b := 3) (by first | decide | simp) (by first | decide | simp) (by first | decide | simp) h
  rw [qc, bnd_some]
  dsimp only [nm]
  rw [← putM_congr g4 g5 g6, putM_uI (o := (10, 0, 0)) (by first | decide | simp) (by first | decide | simp)]
theorem R.mk_ {t u : Nat} {L V : LM} (h : R t u L V) : MkC L := h.2.1.2.2.2.2.2.2.2.2.2.2.2.2.2.1
theorem R.cnt {t u : Nat} {L V : LM} (h : R t u L V) : V.1 (2, 17, 0) = L.1 (5, 8, 0) + L.1 (5, 8, 1) := h.2.2.1.2.2.2
theorem R.cy_ {t u : Nat} {L V : LM} (h : R t u L V) : L.1 (2, 15, 0) = nI t := h.2.2.1.1
theorem nr_loop {n : Nat} (hn : n ≤ 5000) : ∀ (m i f g t : Nat) (L V : LM), i + m = n → m < f → m < g → R t t L V → t + m < 2 ^ 30 → ∃ v t' L' V', (∀ M, f_X11_nextResult_28 f (nI n) (V.1 (2, 17, 0)) (nI i) (putC 5 M L) = some (.inl v, putC 5 M L')) ∧ (∀ N, N.1 (10, 0, 0) 7 = nI 3 → f_X12_nextResult_40 g (nI n) (V.1 (2, 17, 0)) (nI i) (putM 3 0 N V) = some (v, uI (putM 3 0 N V') (10, 0, 0) 7 0)) ∧ R t' t' L' V' ∧ Stc L L' := by
  intro m
  induction m with
  | zero =>
    intro i f g t L V hi hf hg h ht
    obtain ⟨f, rfl⟩ : ∃ k, f = k + 1 := ⟨f - 1, by omega⟩
    obtain ⟨g, rfl⟩ : ∃ k, g = k + 1 := ⟨g - 1, by omega⟩
    refine ⟨-1, t, L, V, fun M => ?_, fun N h7 => ?_, h, Stc.refl L⟩
    · rw [show f_X11_nextResult_28 (f + 1) (nI n) (V.1 (2, 17, 0)) (nI i) (putC 5 M L) = _ from Eq.trans (by unfold f_X11_nextResult_28; exact rfl) rfl, if_pos (nI_le (by omega) (by omega))]
    · rw [show f_X12_nextResult_40 (g + 1) (nI n) (V.1 (2, 17, 0)) (nI i) (putM 3 0 N V) = _ from Eq.trans (by unfold f_X12_nextResult_40; exact rfl) rfl, if_pos (nI_le (by omega) (by omega))]
      unfold f_X12_nextResult_65 f_X12_endTrial
      rw [its_13 h7 (by first | decide | simp), bnd_some, if_pos rfl]
      rfl
  | succ m ih =>
    intro i f g t L V hi hf hg h ht
    obtain ⟨f, rfl⟩ : ∃ k, f = k + 1 := ⟨f - 1, by omega⟩
    obtain ⟨g, rfl⟩ : ∃ k, g = k + 1 := ⟨g - 1, by omega⟩
    obtain ⟨L1, V1, a1, a2, a3, a4⟩ := S_pc h (by omega)
    have cs : ∀ M, f_X11_nextResult_28 (f + 1) (nI n) (V.1 (2, 17, 0)) (nI i) (putC 5 M L) = if V1.1 (2, 17, 0) = V.1 (2, 17, 0) then f_X11_nextResult_28 f (nI n) (V.1 (2, 17, 0)) (nI (i + 1)) (putC 5 M L1) else some (.inl (L.1 (2, 15, 0)), putC 5 M L1) := fun M => by
      rw [show f_X11_nextResult_28 (f + 1) (nI n) (V.1 (2, 17, 0)) (nI i) (putC 5 M L) = _ from Eq.trans (by unfold f_X11_nextResult_28; exact rfl) rfl, if_neg (nI_ge (by omega) (by omega))]
      dsimp only [nm]
      rw [h_X3_passCycle, a1, mg_some, bnd_some, h_X3_resultCount]
      unfold g_X3_resultCount
      rw [mg_some, bnd_some, nI_1, a3.cnt, (show (putC 5 M L).1 (2, 5, 0) 15 = L.1 (2, 15, 0) from (hasC.new (c := 5) (M := M) (L := L)).I rfl)]
    have ms : ∀ N, N.1 (10, 0, 0) 7 = nI 3 → f_X12_nextResult_40 (g + 1) (nI n) (V.1 (2, 17, 0)) (nI i) (putM 3 0 N V) = f_X12_nextResult_40 g (nI n) (V.1 (2, 17, 0)) (nI (i + 1)) (putM 3 0 N V1) := fun N h7 => by
      rw [show f_X12_nextResult_40 (g + 1) (nI n) (V.1 (2, 17, 0)) (nI i) (putM 3 0 N V) = _ from Eq.trans (by unfold f_X12_nextResult_40; exact rfl) rfl, if_neg (nI_ge (by omega) (by omega)), its_13 h7 (by first | decide | simp), bnd_some, if_pos rfl, a2 3 N h7 (by first | decide | simp), bnd_some]
      dsimp only [nm]
      rw [nI_1]
    by_cases q : V1.1 (2, 17, 0) = V.1 (2, 17, 0)
    · obtain ⟨v, t', L', V', b1, b2, b3, b4⟩ := ih (i + 1) f g (t + 1) L1 V1 (by omega) (by omega) (by omega) a3 (by omega)
      rw [q] at b1 b2
      exact ⟨v, t', L', V', fun M => by rw [cs M, if_pos q]; exact b1 M, fun N h7 => by rw [ms N h7]; exact b2 N h7, b3, a4.1.trans b4⟩
    · refine ⟨L.1 (2, 15, 0), t + 1, L1, V1, fun M => by rw [cs M, if_neg q], fun N h7 => ?_, a3, a4.1⟩
      rw [ms N h7]
      obtain ⟨g, rfl⟩ : ∃ k, g = k + 1 := ⟨g - 1, by omega⟩
      have e65 : f_X12_nextResult_65 (V.1 (2, 17, 0)) (putM 3 0 N V1) = some (L.1 (2, 15, 0), uI (putM 3 0 N V1) (10, 0, 0) 7 0) := by
        unfold f_X12_nextResult_65 f_X12_endTrial
        rw [its_13 h7 (by first | decide | simp), bnd_some, if_neg q, its_0 h7 (by first | decide | simp), bnd_some, a3.1.1 (2, 15, 0) rfl, a3.cy_, h.cy_]
        dsimp only [nm]
        rw [bnd_some, show nI (t + 1) - 1 = nI t from nI_sub (a := t + 1) (b := 1) (by omega)]
      rw [show f_X12_nextResult_40 (g + 1) (nI n) (V.1 (2, 17, 0)) (nI (i + 1)) (putM 3 0 N V1) = _ from Eq.trans (by unfold f_X12_nextResult_40; exact rfl) rfl, e65, its_13 h7 (by first | decide | simp), bnd_some, if_neg q, e65]
      exact ite_self _
theorem A_nextResult {B t : Nat} {M : Mem} {L V : LM} (h : InX B M t L V) (hB : B + 5000 < 2 ^ 30) (y : Int32) : Ans (cd1 1) (f_X11_nextResult y M) (f_X12_nextResult y) M B := by
  by_cases hy : 1 ≤ y ∧ y ≤ 5000
  · obtain ⟨n, hn, rfl⟩ := rng (x := y) (n := 5000) (by first | decide | simp) ⟨Int32.le_trans (by first | decide | simp) hy.1, hy.2⟩
    have ht := h.1
    obtain ⟨L1, V1, c1, c2, c3, c4, c5⟩ := cp2 h
    obtain ⟨v, t', L', V', b1, b2, b3, b4⟩ := nr_loop hn n 0 fuelN fuelN t L1 V1 (by omega) (by unfold fuelN; omega) (by unfold fuelN; omega) c2 (by omega)
    have hcn : V1.1 (2, 17, 0) = V.1 (2, 17, 0) := c3 13 (by first | decide | simp)
    have hs : ∀ i, i < 52 → V'.1 (cS i) = V.1 (cS i) := fun i hi => (c2.stv b3 b4 i hi).trans (c4 i hi)
    refine Ans.pr (v := v) h (Nat.le_refl B) ?_ (Tr.c2 b3.mk_) (fun N hN h7 => ⟨trE (uI N (10, 0, 0) 0 0) V', ?_, Tr.e (hN.ui (by first | decide | simp) (by first | decide | simp)) (by rw [h7u0]; exact h7) hs⟩)
    · unfold f_X11_nextResult
      have q : f_X3_resultCount 1 (putC 5 M L1) = some (V1.1 (2, 17, 0), putC 5 M L1) := by
        have q := h_X3_resultCount (c := 1) (M := putC 5 M L1) (L := L)
        unfold g_X3_resultCount at q
        rw [mg_some, show putC 1 (putC 5 M L1) L = putC 5 M L1 from h.2.1.c (by first | decide | simp)] at q
        rw [q, hcn, h.2.2.2.1.cnt]
      rw [rq_y1 hy, bndX_l, c1, bnd_some, q, bnd_some]
      exact b1 M
    · unfold f_X12_nextResult f_X12_nextResult_17
      rw [iR1 hy, bnd_some, if_neg (by first | decide | simp), fzM0 hN, bnd_some, if_pos rfl, bgT (hN.ui (by first | decide | simp) (by first | decide | simp)) c3 c4 c5, bnd_some]
      have h73 : (uI (uI N (10, 0, 0) 0 0) (10, 0, 0) 7 3).1 (10, 0, 0) 7 = nI 3 := uI_at
      rw [its_13 h73 (by first | decide | simp), bnd_some]
      exact b2 _ h73
  · refine Ans.thr (e := 1) (b := 0) h (by omega) ?_ (by first | decide | simp) (fun N h7 => ?_)
    · unfold f_X11_nextResult
      rw [rq_y0 hy, bndX_r]
    · unfold f_X12_nextResult f_X12_nextResult_17
      rw [iR0 hy, bnd_some, if_pos rfl, fz1, bnd_some, if_neg (by first | decide | simp)]
      rfl
theorem wr_loop {n w : Nat} (hw : w < 3) (hn : n ≤ 5000) : ∀ (m i f g t : Nat) (L V : LM), i + m = n → m < f → m < g → R t t L V → t + m < 2 ^ 30 → ∃ v t' L' V', (∀ M, f_X11_whenRaised_53 f (nI n) 5 w (nI i) (putC 5 M L) = some (.inl v, putC 5 M L')) ∧ (∀ N, N.1 (10, 0, 0) 7 = nI 3 → f_X12_whenRaised_60 g (nI w) (nI n) (nI i) (putM 3 0 N V) = some (v, uI (putM 3 0 N V') (10, 0, 0) 7 0)) ∧ R t' t' L' V' ∧ Stc L L' := by
  have e87 : ∀ {t : Nat} {L V : LM} {N : Mem}, R t t L V → N.1 (10, 0, 0) 7 = nI 3 → f_X12_whenRaised_87 (nI w) (putM 3 0 N V) = some (L.1 (8, 7, w), uI (putM 3 0 N V) (10, 0, 0) 7 0) := by
    intro t L V N h h7
    unfold f_X12_whenRaised_87 f_X12_endTrial
    rw [win_3, bnd_some, itswin_3 h7 (by first | decide | simp) hw, bnd_some, h.1.1 (8, 6, w) rfl]
    rcases h.2.2.2.2.2.1 w hw with q | q
    · rw [q.1, if_pos rfl, q.2.1]
      rfl
    · rw [q.1, if_neg (by first | decide | simp), win_4, bnd_some, itswin_4 h7 (by first | decide | simp) hw, bnd_some, q.2.1]
      rfl
  have e7 : ∀ (M : Mem) (L : LM) (k : Nat), (putC 5 M L).1 (8, 5, w) k = L.1 (8, k, w) := fun M L k => (hasC.new (c := 5) (M := M) (L := L)).I rfl
  intro m
  induction m with
  | zero =>
    intro i f g t L V hi hf hg h ht
    obtain ⟨f, rfl⟩ : ∃ k, f = k + 1 := ⟨f - 1, by omega⟩
    obtain ⟨g, rfl⟩ : ∃ k, g = k + 1 := ⟨g - 1, by omega⟩
    refine ⟨L.1 (8, 7, w), t, L, V, fun M => ?_, fun N h7 => ?_, h, Stc.refl L⟩
    · rw [show f_X11_whenRaised_53 (f + 1) (nI n) 5 w (nI i) (putC 5 M L) = _ from Eq.trans (by unfold f_X11_whenRaised_53; exact rfl) rfl, if_pos (nI_le (by omega) (by omega)), e7]
    · rw [show f_X12_whenRaised_60 (g + 1) (nI w) (nI n) (nI i) (putM 3 0 N V) = _ from Eq.trans (by unfold f_X12_whenRaised_60; exact rfl) rfl, if_pos (nI_le (by omega) (by omega))]
      exact e87 h h7
  | succ m ih =>
    intro i f g t L V hi hf hg h ht
    obtain ⟨f, rfl⟩ : ∃ k, f = k + 1 := ⟨f - 1, by omega⟩
    obtain ⟨g, rfl⟩ : ∃ k, g = k + 1 := ⟨g - 1, by omega⟩
    have cs : ∀ M, f_X11_whenRaised_53 (f + 1) (nI n) 5 w (nI i) (putC 5 M L) = _ := fun M => Eq.trans (Eq.trans (by unfold f_X11_whenRaised_53; exact rfl) rfl) (if_neg (nI_ge (by omega) (by omega)))
    have ms : ∀ N, f_X12_whenRaised_60 (g + 1) (nI w) (nI n) (nI i) (putM 3 0 N V) = _ := fun N => Eq.trans (Eq.trans (by unfold f_X12_whenRaised_60; exact rfl) rfl) (if_neg (nI_ge (by omega) (by omega)))
    by_cases q : L.1 (8, 6, w) = 0
    · obtain ⟨L1, V1, a1, a2, a3, a4⟩ := S_pc h (by omega)
      obtain ⟨v, t', L', V', b1, b2, b3, b4⟩ := ih (i + 1) f g (t + 1) L1 V1 (by omega) (by omega) (by omega) a3 (by omega)
      refine ⟨v, t', L', V', fun M => ?_, fun N h7 => ?_, b3, a4.1.trans b4⟩
      · rw [cs M, if_pos (by rw [e7]; exact q), h_X3_passCycle, a1, mg_some, bnd_some]
        dsimp only [nm]
        rw [nI_1]
        exact b1 M
      · rw [ms N, win_3, bnd_some, itswin_3 h7 (by first | decide | simp) hw, bnd_some, h.1.1 (8, 6, w) rfl, if_pos q, a2 3 N h7 (by first | decide | simp), bnd_some]
        dsimp only [nm]
        rw [nI_1]
        exact b2 N h7
    · refine ⟨L.1 (8, 7, w), t, L, V, fun M => ?_, fun N h7 => ?_, h, Stc.refl L⟩
      · rw [cs M, if_neg (by rw [e7]; exact q), e7]
      · rw [ms N, win_3, bnd_some, itswin_3 h7 (by first | decide | simp) hw, bnd_some, h.1.1 (8, 6, w) rfl, if_neg q]
        exact e87 h h7
theorem A_whenRaised {B t : Nat} {M : Mem} {L V : LM} (h : InX B M t L V) (hB : B + 5000 < 2 ^ 30) (x y : Int32) : Ans (cd2 2 1) (f_X11_whenRaised x y M) (f_X12_whenRaised x y) M B := by
  have hC := h.2.1
  have hE := h.2.2.2.1.1
  have hbz : ∀ w, w < 3 → bz (L.1 (8, 0, w)) := fun w hw => (h.2.2.2.1.2.1.2.2.2.2.2.2.2.2.2.2.2.1 w hw).1
  by_cases hx : Wt L x
  · have hxV : Wt V x := (Wt.eqq hE).mpr hx
    by_cases hy : 1 ≤ y ∧ y ≤ 5000
    · obtain ⟨n, hn, rfl⟩ := rng (x := y) (n := 5000) (by first | decide | simp) ⟨Int32.le_trans (by first | decide | simp) hy.1, hy.2⟩
      obtain ⟨w, hw, rfl⟩ := rng (n := 2) (by first | decide | simp) hx.1
      have hw3 : w < 3 := by omega
      have ht := h.1
      have isWM : ∀ N, hasM 0 0 N V → f_X12_isWindow (nI w) N = some (1, N) := fun N hN => by
        have q := isW1 (N := N) hxV
        rw [show putM 0 0 N V = N from hN] at q
        exact q
      have itM : ∀ N, hasM 0 0 N V → N.1 (10, 0, 0) 7 = nI 0 → f_X12_its (kWn w 3) N = some (L.1 (8, 6, w), N) := fun N hN h7 => by
        have q := itswin_3 (σ := 0) (N := N) (V := V) h7 (by first | decide | simp) hw3
        rw [show putM 0 0 N V = N from hN, hE.1 (8, 6, w) rfl] at q
        exact q
      by_cases q : L.1 (8, 6, w) = 0
      · obtain ⟨L1, V1, c1, c2, c3, c4, c5⟩ := cp2 h
        obtain ⟨v, t', L', V', b1, b2, b3, b4⟩ := wr_loop hw3 hn n 0 fuelN fuelN t L1 V1 (by omega) (by unfold fuelN; omega) (by unfold fuelN; omega) c2 (by omega)
        have hs : ∀ i, i < 52 → V'.1 (cS i) = V.1 (cS i) := fun i hi => (c2.stv b3 b4 i hi).trans (c4 i hi)
        refine Ans.pr (v := v) h (Nat.le_refl B) ?_ (Tr.c2 b3.mk_) (fun N hN h7 => ⟨trE (uI N (10, 0, 0) 0 0) V', ?_, Tr.e (hN.ui (by first | decide | simp) (by first | decide | simp)) (by rw [h7u0]; exact h7) hs⟩)
        · unfold f_X11_whenRaised
          rw [rq_n1 hC hx, bndX_l, rq_y1 hy, bndX_l, if_neg (nbad hw3 (by first | decide | simp)), if_pos (by rw [nI_clamp (by omega), hC.I rfl]; exact q), c1, bnd_some, if_neg (nbad hw3 (by first | decide | simp)), nI_clamp (by omega)]
          exact b1 M
        · unfold f_X12_whenRaised f_X12_whenRaised_14 f_X12_whenRaised_30
          have hN0 : hasM 0 0 (uI N (10, 0, 0) 0 0) V := hN.ui (by first | decide | simp) (by first | decide | simp)
          rw [isWM N hN, bnd_some, if_neg (by first | decide | simp), iR1 hy, bnd_some, if_neg (by first | decide | simp), fzM0 hN, bnd_some, if_pos rfl, win_3, bnd_some, itM _ hN0 (by rw [h7u0]; exact h7), bnd_some, if_neg (by rw [q]; decide), bgT hN0 c3 c4 c5, bnd_some]
          exact b2 _ uI_at
      · have q1 : L.1 (8, 6, w) = 1 := (h.2.2.2.1.2.2.2.2.2.1 w hw3).elim (fun z => absurd z.1 q) (fun z => z.1)
        refine Ans.pr (v := -1) h (Nat.le_refl B) ?_ (Tr.refl M) (fun N hN h7 => ⟨uI N (10, 0, 0) 0 0, ?_, Tr.refl _⟩)
        · unfold f_X11_whenRaised
          rw [rq_n1 hC hx, bndX_l, rq_y1 hy, bndX_l, if_neg (nbad hw3 (by first | decide | simp)), if_neg (by rw [nI_clamp (by omega), hC.I rfl]; exact q)]
        · unfold f_X12_whenRaised f_X12_whenRaised_14 f_X12_whenRaised_30
          have hN0 : hasM 0 0 (uI N (10, 0, 0) 0 0) V := hN.ui (by first | decide | simp) (by first | decide | simp)
          rw [isWM N hN, bnd_some, if_neg (by first | decide | simp), iR1 hy, bnd_some, if_neg (by first | decide | simp), fzM0 hN, bnd_some, if_pos rfl, win_3, bnd_some, itM _ hN0 (by rw [h7u0]; exact h7), bnd_some, if_pos q1]
    · refine Ans.thr (e := 1) (b := 0) h (Nat.le_refl B) ?_ (by first | decide | simp) (fun N h7 => ?_)
      · unfold f_X11_whenRaised
        rw [rq_n1 hC hx, bndX_l, rq_y0 hy, bndX_r]
      · unfold f_X12_whenRaised f_X12_whenRaised_14 f_X12_whenRaised_30
        rw [isW1 hxV, bnd_some, if_neg (by first | decide | simp), iR0 hy, bnd_some, if_pos rfl, fz2, bnd_some, if_neg (by first | decide | simp)]
        rfl
  · have hxV : ¬ Wt V x := fun q => hx ((Wt.eqq hE).mp q)
    refine Ans.thr (e := 2) (b := 0) h (Nat.le_refl B) ?_ (by first | decide | simp) (fun N h7 => ?_)
    · unfold f_X11_whenRaised
      rw [rq_n0 hC hbz hx, bndX_r]
    · unfold f_X12_whenRaised f_X12_whenRaised_14 f_X12_whenRaised_30
      rw [isW0 hxV, bnd_some, if_pos rfl]
      by_cases hy : 1 ≤ y ∧ y ≤ 5000
      · rw [iR1 hy, bnd_some, if_neg (by first | decide | simp), fz1, bnd_some, if_neg (by first | decide | simp)]
        rfl
      · rw [iR0 hy, bnd_some, if_pos rfl, fz1, bnd_some, if_neg (by first | decide | simp)]
        rfl
